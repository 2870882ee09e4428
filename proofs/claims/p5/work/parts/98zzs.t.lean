/-! taken of both as functions (own work, by program) -/
def f_CS_isOfGroup (A : mA) (a0 : Int) (a1 : Int) : Option (Int × mA) := (if g32 a1 then (if a1 = 0 then (if g32 a0 then (if a0 = 0 then (some (1, A)) else (if a0 = 1 then (some (1, A)) else (if a0 = 5 then (some (1, A)) else (some (0, A))))) else none) else if a1 = 1 then (if g32 a0 then (if a0 = 3 then (some (1, A)) else (if a0 = 4 then (some (1, A)) else (some (0, A)))) else none) else (if g32 a0 then (if a0 = 1 then (some (1, A)) else (if a0 = 2 then (some (1, A)) else (if a0 = 3 then (some (1, A)) else (if a0 = 5 then (some (1, A)) else (some (0, A)))))) else none)) else none)
theorem f_hx_CS_isOfGroup_0_1 : mblkB b_CS_isOfGroup [(0, .iload_n 1, vi 0)] = true := by decide +kernel
theorem e_hx_CS_isOfGroup_1 : decode b_CS_isOfGroup 1 = .ok (.lookupswitch 63 #[(0, 27), (1, 47)], 27) := by decide +kernel
theorem f_hx_CS_isOfGroup_28_1 : mblkB b_CS_isOfGroup [(28, .iload_n 0, vi 0)] = true := by decide +kernel
theorem e_hx_CS_isOfGroup_29 : decode b_CS_isOfGroup 29 = .ok (.ifCond .eq 13, 3) := by decide +kernel
theorem f_hx_CS_isOfGroup_42_2 : mblkB b_CS_isOfGroup [(42, .iconst 1, vi 1), (43, .goto 4, vi 47)] = true := by decide +kernel
theorem e_hx_CS_isOfGroup_47 : decode b_CS_isOfGroup 47 = .ok (.ireturn, 1) := by decide +kernel
theorem f_hx_CS_isOfGroup_32_2 : mblkB b_CS_isOfGroup [(32, .iload_n 0, vi 0), (33, .iconst 1, vi 1)] = true := by decide +kernel
theorem e_hx_CS_isOfGroup_34 : decode b_CS_isOfGroup 34 = .ok (.if_icmp .eq 8, 3) := by decide +kernel
theorem f_hx_CS_isOfGroup_37_2 : mblkB b_CS_isOfGroup [(37, .iload_n 0, vi 0), (38, .iconst 5, vi 5)] = true := by decide +kernel
theorem e_hx_CS_isOfGroup_39 : decode b_CS_isOfGroup 39 = .ok (.if_icmp .ne 7, 3) := by decide +kernel
theorem f_hx_CS_isOfGroup_46_1 : mblkB b_CS_isOfGroup [(46, .iconst 0, vi 0)] = true := by decide +kernel
theorem f_hx_CS_isOfGroup_48_2 : mblkB b_CS_isOfGroup [(48, .iload_n 0, vi 0), (49, .iconst 3, vi 3)] = true := by decide +kernel
theorem e_hx_CS_isOfGroup_50 : decode b_CS_isOfGroup 50 = .ok (.if_icmp .eq 8, 3) := by decide +kernel
theorem f_hx_CS_isOfGroup_58_2 : mblkB b_CS_isOfGroup [(58, .iconst 1, vi 1), (59, .goto 4, vi 63)] = true := by decide +kernel
theorem e_hx_CS_isOfGroup_63 : decode b_CS_isOfGroup 63 = .ok (.ireturn, 1) := by decide +kernel
theorem f_hx_CS_isOfGroup_53_2 : mblkB b_CS_isOfGroup [(53, .iload_n 0, vi 0), (54, .iconst 4, vi 4)] = true := by decide +kernel
theorem e_hx_CS_isOfGroup_55 : decode b_CS_isOfGroup 55 = .ok (.if_icmp .ne 7, 3) := by decide +kernel
theorem f_hx_CS_isOfGroup_62_1 : mblkB b_CS_isOfGroup [(62, .iconst 0, vi 0)] = true := by decide +kernel
theorem f_hx_CS_isOfGroup_64_2 : mblkB b_CS_isOfGroup [(64, .iload_n 0, vi 0), (65, .iconst 1, vi 1)] = true := by decide +kernel
theorem e_hx_CS_isOfGroup_66 : decode b_CS_isOfGroup 66 = .ok (.if_icmp .eq 18, 3) := by decide +kernel
theorem f_hx_CS_isOfGroup_84_2 : mblkB b_CS_isOfGroup [(84, .iconst 1, vi 1), (85, .goto 4, vi 89)] = true := by decide +kernel
theorem e_hx_CS_isOfGroup_89 : decode b_CS_isOfGroup 89 = .ok (.ireturn, 1) := by decide +kernel
theorem f_hx_CS_isOfGroup_69_2 : mblkB b_CS_isOfGroup [(69, .iload_n 0, vi 0), (70, .iconst 2, vi 2)] = true := by decide +kernel
theorem e_hx_CS_isOfGroup_71 : decode b_CS_isOfGroup 71 = .ok (.if_icmp .eq 13, 3) := by decide +kernel
theorem f_hx_CS_isOfGroup_74_2 : mblkB b_CS_isOfGroup [(74, .iload_n 0, vi 0), (75, .iconst 3, vi 3)] = true := by decide +kernel
theorem e_hx_CS_isOfGroup_76 : decode b_CS_isOfGroup 76 = .ok (.if_icmp .eq 8, 3) := by decide +kernel
theorem f_hx_CS_isOfGroup_79_2 : mblkB b_CS_isOfGroup [(79, .iload_n 0, vi 0), (80, .iconst 5, vi 5)] = true := by decide +kernel
theorem e_hx_CS_isOfGroup_81 : decode b_CS_isOfGroup 81 = .ok (.if_icmp .ne 7, 3) := by decide +kernel
theorem f_hx_CS_isOfGroup_88_1 : mblkB b_CS_isOfGroup [(88, .iconst 0, vi 0)] = true := by decide +kernel
set_option maxHeartbeats 4000000 in
set_option maxRecDepth 20000 in
theorem hx_CS_isOfGroup  : ∀ (l : Launch) (D : va_G) (B : Nat) (H0 : Heap) (G : tG) (A : mA) (a0 : Int) (a1 : Int)  (r9 : Int) (A9 : mA), f_CS_isOfGroup  A a0 a1 = some (r9, A9) → hMet l D B H0 G y_CS_isOfGroup b_CS_isOfGroup 2 (some .boolean) 0 0 [vi a0, vi a1] A (fun v A' => v = some (vi r9) ∧ A' = A9) := by
  intro l D B H0 G A a0 a1  r9 A9 h
  refine h_met (by decide) rfl (fun g q C Rm Y E => ?_)
  show HM g D G q A 0 [(0, vi a0), (1, vi a1)] []
  unfold f_CS_isOfGroup at h
  refine h_blk 1 [(0, vi a0), (1, vi a1)] [vi a1] C f_hx_CS_isOfGroup_0_1 rfl ?_
  obtain ⟨c1, h⟩ := igd h
  by_cases c2 : a1 = 0
  · have h := ifp c2 h
    refine h_look (tgt := 28) C e_hx_CS_isOfGroup_1 (by decide) c1 (by rw [c2]; rfl) ?_
    refine h_blk 29 [(0, vi a0), (1, vi a1)] [vi a0] C f_hx_CS_isOfGroup_28_1 rfl ?_
    obtain ⟨c3, h⟩ := igd h
    refine h_if_eq (tgt := 42) C e_hx_CS_isOfGroup_29 (by decide) c3 (fun c4 => ?_) (fun c4 => ?_)
    · have h := ifp c4 h
      refine h_blk 47 [(0, vi a0), (1, vi a1)] [vi 1] C f_hx_CS_isOfGroup_42_2 rfl ?_
      exact h_zret C Rm E (Or.inr rfl) e_hx_CS_isOfGroup_47 (fin1 h)
    · have h := ifn c4 h
      refine h_blk 34 [(0, vi a0), (1, vi a1)] [vi 1, vi a0] C f_hx_CS_isOfGroup_32_2 rfl ?_
      refine h_icmp_eq (tgt := 42) C e_hx_CS_isOfGroup_34 (by decide) c3 (by decide) (fun c5 => ?_) (fun c5 => ?_)
      · have h := ifp c5 h
        refine h_blk 47 [(0, vi a0), (1, vi a1)] [vi 1] C f_hx_CS_isOfGroup_42_2 rfl ?_
        exact h_zret C Rm E (Or.inr rfl) e_hx_CS_isOfGroup_47 (fin1 h)
      · have h := ifn c5 h
        refine h_blk 39 [(0, vi a0), (1, vi a1)] [vi 5, vi a0] C f_hx_CS_isOfGroup_37_2 rfl ?_
        refine h_icmp_ne (tgt := 46) C e_hx_CS_isOfGroup_39 (by decide) c3 (by decide) (fun c6 => ?_) (fun c6 => ?_)
        · have h := ifn c6 h
          refine h_blk 47 [(0, vi a0), (1, vi a1)] [vi 0] C f_hx_CS_isOfGroup_46_1 rfl ?_
          exact h_zret C Rm E (Or.inl rfl) e_hx_CS_isOfGroup_47 (fin1 h)
        · have h := ifp c6 h
          refine h_blk 47 [(0, vi a0), (1, vi a1)] [vi 1] C f_hx_CS_isOfGroup_42_2 rfl ?_
          exact h_zret C Rm E (Or.inr rfl) e_hx_CS_isOfGroup_47 (fin1 h)
  have h := ifn c2 h
  by_cases c7 : a1 = 1
  · have h := ifp c7 h
    refine h_look (tgt := 48) C e_hx_CS_isOfGroup_1 (by decide) c1 (by rw [c7]; rfl) ?_
    refine h_blk 50 [(0, vi a0), (1, vi a1)] [vi 3, vi a0] C f_hx_CS_isOfGroup_48_2 rfl ?_
    obtain ⟨c8, h⟩ := igd h
    refine h_icmp_eq (tgt := 58) C e_hx_CS_isOfGroup_50 (by decide) c8 (by decide) (fun c9 => ?_) (fun c9 => ?_)
    · have h := ifp c9 h
      refine h_blk 63 [(0, vi a0), (1, vi a1)] [vi 1] C f_hx_CS_isOfGroup_58_2 rfl ?_
      exact h_zret C Rm E (Or.inr rfl) e_hx_CS_isOfGroup_63 (fin1 h)
    · have h := ifn c9 h
      refine h_blk 55 [(0, vi a0), (1, vi a1)] [vi 4, vi a0] C f_hx_CS_isOfGroup_53_2 rfl ?_
      refine h_icmp_ne (tgt := 62) C e_hx_CS_isOfGroup_55 (by decide) c8 (by decide) (fun c10 => ?_) (fun c10 => ?_)
      · have h := ifn c10 h
        refine h_blk 63 [(0, vi a0), (1, vi a1)] [vi 0] C f_hx_CS_isOfGroup_62_1 rfl ?_
        exact h_zret C Rm E (Or.inl rfl) e_hx_CS_isOfGroup_63 (fin1 h)
      · have h := ifp c10 h
        refine h_blk 63 [(0, vi a0), (1, vi a1)] [vi 1] C f_hx_CS_isOfGroup_58_2 rfl ?_
        exact h_zret C Rm E (Or.inr rfl) e_hx_CS_isOfGroup_63 (fin1 h)
  have h := ifn c7 h
  refine h_look (tgt := 64) C e_hx_CS_isOfGroup_1 (by decide) c1 (by rw [look_out _ _ _ (by simp only [List.forall_mem_cons]; exact ⟨c2, c7, fun _ h9 => absurd h9 List.not_mem_nil⟩)]; rfl) ?_
  refine h_blk 66 [(0, vi a0), (1, vi a1)] [vi 1, vi a0] C f_hx_CS_isOfGroup_64_2 rfl ?_
  obtain ⟨c11, h⟩ := igd h
  refine h_icmp_eq (tgt := 84) C e_hx_CS_isOfGroup_66 (by decide) c11 (by decide) (fun c12 => ?_) (fun c12 => ?_)
  · have h := ifp c12 h
    refine h_blk 89 [(0, vi a0), (1, vi a1)] [vi 1] C f_hx_CS_isOfGroup_84_2 rfl ?_
    exact h_zret C Rm E (Or.inr rfl) e_hx_CS_isOfGroup_89 (fin1 h)
  · have h := ifn c12 h
    refine h_blk 71 [(0, vi a0), (1, vi a1)] [vi 2, vi a0] C f_hx_CS_isOfGroup_69_2 rfl ?_
    refine h_icmp_eq (tgt := 84) C e_hx_CS_isOfGroup_71 (by decide) c11 (by decide) (fun c13 => ?_) (fun c13 => ?_)
    · have h := ifp c13 h
      refine h_blk 89 [(0, vi a0), (1, vi a1)] [vi 1] C f_hx_CS_isOfGroup_84_2 rfl ?_
      exact h_zret C Rm E (Or.inr rfl) e_hx_CS_isOfGroup_89 (fin1 h)
    · have h := ifn c13 h
      refine h_blk 76 [(0, vi a0), (1, vi a1)] [vi 3, vi a0] C f_hx_CS_isOfGroup_74_2 rfl ?_
      refine h_icmp_eq (tgt := 84) C e_hx_CS_isOfGroup_76 (by decide) c11 (by decide) (fun c14 => ?_) (fun c14 => ?_)
      · have h := ifp c14 h
        refine h_blk 89 [(0, vi a0), (1, vi a1)] [vi 1] C f_hx_CS_isOfGroup_84_2 rfl ?_
        exact h_zret C Rm E (Or.inr rfl) e_hx_CS_isOfGroup_89 (fin1 h)
      · have h := ifn c14 h
        refine h_blk 81 [(0, vi a0), (1, vi a1)] [vi 5, vi a0] C f_hx_CS_isOfGroup_79_2 rfl ?_
        refine h_icmp_ne (tgt := 88) C e_hx_CS_isOfGroup_81 (by decide) c11 (by decide) (fun c15 => ?_) (fun c15 => ?_)
        · have h := ifn c15 h
          refine h_blk 89 [(0, vi a0), (1, vi a1)] [vi 0] C f_hx_CS_isOfGroup_88_1 rfl ?_
          exact h_zret C Rm E (Or.inl rfl) e_hx_CS_isOfGroup_89 (fin1 h)
        · have h := ifp c15 h
          refine h_blk 89 [(0, vi a0), (1, vi a1)] [vi 1] C f_hx_CS_isOfGroup_84_2 rfl ?_
          exact h_zret C Rm E (Or.inr rfl) e_hx_CS_isOfGroup_89 (fin1 h)

def f_CS_taken (A : mA) (o : Nat) (a0 : Int) (a1 : Int) (a2 : Int) : Option (Int × mA) := (Option.bind (f_CS_isProgram A o a0) (fun q1 => (if g32 q1.1 then (if q1.1 = 0 then (some ((-2), q1.2)) else (if g32 a2 then (if a2 < 0 then (some ((-2), q1.2)) else (if a2 ≤ 2 then (if g32 a1 then (if a1 < 0 then (some ((-12), q1.2)) else (if (0 ≤ a0 ∧ a0 < ((6 : Nat) : Int)) then (if 0 ≤ (q1.2 21 ((q1.2 8 o 2).toNat) a0.toNat) then (if g32 (q1.2 2 ((q1.2 21 ((q1.2 8 o 2).toNat) a0.toNat).toNat) 1) then (if a1 < (q1.2 2 ((q1.2 21 ((q1.2 8 o 2).toNat) a0.toNat).toNat) 1) then (Option.bind (f_Prog_stepAt q1.2 ((q1.2 21 ((q1.2 8 o 2).toNat) a0.toNat).toNat) a1) (fun q18 => (Option.bind (f_CS_isOfGroup q18.2 (q18.2 6 q18.1.toNat 0) a2) (fun q21 => (if g32 q21.1 then (if q21.1 = 0 then (some ((-13), q21.2)) else (some ((q18.2 6 q18.1.toNat 0), q21.2))) else none))))) else (some ((-12), q1.2))) else none) else none) else none)) else none) else (some ((-2), q1.2)))) else none)) else none)))
theorem f_hx_CS_taken_0_2 : mblkB b_CS_taken [(0, .aload_n 0, vi 0), (1, .iload_n 1, vi 0)] = true := by decide +kernel
theorem e_hx_CS_taken_2 : decode b_CS_taken 2 = .ok (.invokevirtual 94, 3) := by decide +kernel
theorem e_hx_CS_taken_5 : decode b_CS_taken 5 = .ok (.ifCond .eq 12, 3) := by decide +kernel
theorem f_hx_CS_taken_17_1 : mblkB b_CS_taken [(17, .bipush (-2), vi (-2))] = true := by decide +kernel
theorem e_hx_CS_taken_19 : decode b_CS_taken 19 = .ok (.ireturn, 1) := by decide +kernel
theorem f_hx_CS_taken_8_1 : mblkB b_CS_taken [(8, .iload_n 3, vi 0)] = true := by decide +kernel
theorem e_hx_CS_taken_9 : decode b_CS_taken 9 = .ok (.ifCond .lt 8, 3) := by decide +kernel
theorem f_hx_CS_taken_12_2 : mblkB b_CS_taken [(12, .iload_n 3, vi 0), (13, .iconst 2, vi 2)] = true := by decide +kernel
theorem e_hx_CS_taken_14 : decode b_CS_taken 14 = .ok (.if_icmp .le 6, 3) := by decide +kernel
theorem f_hx_CS_taken_20_1 : mblkB b_CS_taken [(20, .iload_n 2, vi 0)] = true := by decide +kernel
theorem e_hx_CS_taken_21 : decode b_CS_taken 21 = .ok (.ifCond .lt 16, 3) := by decide +kernel
theorem f_hx_CS_taken_37_1 : mblkB b_CS_taken [(37, .bipush (-12), vi (-12))] = true := by decide +kernel
theorem e_hx_CS_taken_39 : decode b_CS_taken 39 = .ok (.ireturn, 1) := by decide +kernel
theorem f_hx_CS_taken_24_2 : mblkB b_CS_taken [(24, .iload_n 2, vi 0), (25, .aload_n 0, vi 0)] = true := by decide +kernel
theorem e_hx_CS_taken_26 : decode b_CS_taken 26 = .ok (.getfield 15, 3) := by decide +kernel
theorem f_hx_CS_taken_29_1 : mblkB b_CS_taken [(29, .iload_n 1, vi 0)] = true := by decide +kernel
theorem e_hx_CS_taken_30 : decode b_CS_taken 30 = .ok (.aaload, 1) := by decide +kernel
theorem e_hx_CS_taken_31 : decode b_CS_taken 31 = .ok (.getfield 97, 3) := by decide +kernel
theorem e_hx_CS_taken_34 : decode b_CS_taken 34 = .ok (.if_icmp .lt 6, 3) := by decide +kernel
theorem f_hx_CS_taken_40_1 : mblkB b_CS_taken [(40, .aload_n 0, vi 0)] = true := by decide +kernel
theorem e_hx_CS_taken_41 : decode b_CS_taken 41 = .ok (.getfield 15, 3) := by decide +kernel
theorem f_hx_CS_taken_44_1 : mblkB b_CS_taken [(44, .iload_n 1, vi 0)] = true := by decide +kernel
theorem e_hx_CS_taken_45 : decode b_CS_taken 45 = .ok (.aaload, 1) := by decide +kernel
theorem f_hx_CS_taken_46_1 : mblkB b_CS_taken [(46, .iload_n 2, vi 0)] = true := by decide +kernel
theorem e_hx_CS_taken_47 : decode b_CS_taken 47 = .ok (.invokevirtual 114, 3) := by decide +kernel
theorem e_hx_CS_taken_50 : decode b_CS_taken 50 = .ok (.getfield 118, 3) := by decide +kernel
theorem f_hx_CS_taken_53_3 : mblkB b_CS_taken [(53, .istore 4, vi 0), (55, .iload 4, vi 0), (57, .iload_n 3, vi 0)] = true := by decide +kernel
theorem e_hx_CS_taken_58 : decode b_CS_taken 58 = .ok (.invokestatic 136, 3) := by decide +kernel
theorem e_hx_CS_taken_61 : decode b_CS_taken 61 = .ok (.ifCond .eq 8, 3) := by decide +kernel
theorem f_hx_CS_taken_69_1 : mblkB b_CS_taken [(69, .bipush (-13), vi (-13))] = true := by decide +kernel
theorem e_hx_CS_taken_71 : decode b_CS_taken 71 = .ok (.ireturn, 1) := by decide +kernel
theorem f_hx_CS_taken_64_2 : mblkB b_CS_taken [(64, .iload 4, vi 0), (66, .goto 5, vi 71)] = true := by decide +kernel
set_option maxHeartbeats 4000000 in
set_option maxRecDepth 20000 in
theorem hx_CS_taken  : ∀ (l : Launch) (D : va_G) (B : Nat) (H0 : Heap) (G : tG) (A : mA) (o : Nat) (a0 : Int) (a1 : Int) (a2 : Int) (h_o : G o = some 8)  (r9 : Int) (A9 : mA), f_CS_taken  A o a0 a1 a2 = some (r9, A9) → hMet l D B H0 G y_CS_taken b_CS_taken 5 (some .int) 1 21 [vr 8 o, vi a0, vi a1, vi a2] A (fun v A' => v = some (vi r9) ∧ A' = A9) := by
  intro l D B H0 G A o a0 a1 a2 h_o r9 A9 h
  refine h_met (by decide) rfl (fun g q C Rm Y E => ?_)
  show HM g D G q A 0 [(0, vr 8 o), (1, vi a0), (2, vi a1), (3, vi a2)] []
  unfold f_CS_taken at h
  refine h_blk 2 [(0, vr 8 o), (1, vi a0), (2, vi a1), (3, vi a2)] [vi a0, vr 8 o] C f_hx_CS_taken_0_2 rfl ?_
  obtain ⟨q1, e2, h⟩ := obd h
  refine h_callV C Rm Y [vi a0] [] (hx_CS_isProgram l D B H0 G _ o a0 h_o _ _ e2) cl_CS_94 h_o rfl rfl rfl e_hx_CS_taken_2 rfl rfl rfl ⟨by decide, by decide⟩ ?_
  rintro _ _ ⟨rfl, rfl⟩
  show HM g D G q q1.2 5 [(0, vr 8 o), (1, vi a0), (2, vi a1), (3, vi a2)] [vi q1.1]
  obtain ⟨c3, h⟩ := igd h
  refine h_if_eq (tgt := 17) C e_hx_CS_taken_5 (by decide) c3 (fun c4 => ?_) (fun c4 => ?_)
  · have h := ifp c4 h
    refine h_blk 19 [(0, vr 8 o), (1, vi a0), (2, vi a1), (3, vi a2)] [vi (-2)] C f_hx_CS_taken_17_1 rfl ?_
    exact h_iret C Rm E e_hx_CS_taken_19 (fin1 h)
  · have h := ifn c4 h
    refine h_blk 9 [(0, vr 8 o), (1, vi a0), (2, vi a1), (3, vi a2)] [vi a2] C f_hx_CS_taken_8_1 rfl ?_
    obtain ⟨c5, h⟩ := igd h
    refine h_if_lt (tgt := 17) C e_hx_CS_taken_9 (by decide) c5 (fun c6 => ?_) (fun c6 => ?_)
    · have h := ifp c6 h
      refine h_blk 19 [(0, vr 8 o), (1, vi a0), (2, vi a1), (3, vi a2)] [vi (-2)] C f_hx_CS_taken_17_1 rfl ?_
      exact h_iret C Rm E e_hx_CS_taken_19 (fin1 h)
    · have h := ifn c6 h
      refine h_blk 14 [(0, vr 8 o), (1, vi a0), (2, vi a1), (3, vi a2)] [vi 2, vi a2] C f_hx_CS_taken_12_2 rfl ?_
      refine h_icmp_le (tgt := 20) C e_hx_CS_taken_14 (by decide) c5 (by decide) (fun c7 => ?_) (fun c7 => ?_)
      · have h := ifp c7 h
        refine h_blk 21 [(0, vr 8 o), (1, vi a0), (2, vi a1), (3, vi a2)] [vi a1] C f_hx_CS_taken_20_1 rfl ?_
        obtain ⟨c8, h⟩ := igd h
        refine h_if_lt (tgt := 37) C e_hx_CS_taken_21 (by decide) c8 (fun c9 => ?_) (fun c9 => ?_)
        · have h := ifp c9 h
          refine h_blk 39 [(0, vr 8 o), (1, vi a0), (2, vi a1), (3, vi a2)] [vi (-12)] C f_hx_CS_taken_37_1 rfl ?_
          exact h_iret C Rm E e_hx_CS_taken_39 (fin1 h)
        · have h := ifn c9 h
          refine h_blk 26 [(0, vr 8 o), (1, vi a0), (2, vi a1), (3, vi a2)] [vr 8 o, vi a1] C f_hx_CS_taken_24_2 rfl ?_
          refine h_getr4 C e_hx_CS_taken_26 fg_CS_15 h_o rfl rfl rfl rfl (fun g10 => ?_)
          refine h_blk 30 [(0, vr 8 o), (1, vi a0), (2, vi a1), (3, vi a2)] [vi a0, vr 21 ((q1.2 8 o 2).toNat), vi a1] C f_hx_CS_taken_29_1 rfl ?_
          obtain ⟨c11, h⟩ := igd h
          obtain ⟨c12, h⟩ := igd h
          refine h_aald5 C e_hx_CS_taken_30 rfl rfl g10 rfl rfl rfl rfl (by decide) c11.1 c11.2 c12 (fun g13 => ?_)
          refine h_geti C e_hx_CS_taken_31 fg_CS_97 g13 rfl rfl rfl (q1.2 2 ((q1.2 21 ((q1.2 8 o 2).toNat) a0.toNat).toNat) 1) rfl ?_
          obtain ⟨c14, h⟩ := igd h
          refine h_icmp_lt (tgt := 40) C e_hx_CS_taken_34 (by decide) c8 c14 (fun c15 => ?_) (fun c15 => ?_)
          · have h := ifp c15 h
            refine h_blk 41 [(0, vr 8 o), (1, vi a0), (2, vi a1), (3, vi a2)] [vr 8 o] C f_hx_CS_taken_40_1 rfl ?_
            refine h_getr4 C e_hx_CS_taken_41 fg_CS_15 h_o rfl rfl rfl rfl (fun g16 => ?_)
            refine h_blk 45 [(0, vr 8 o), (1, vi a0), (2, vi a1), (3, vi a2)] [vi a0, vr 21 ((q1.2 8 o 2).toNat)] C f_hx_CS_taken_44_1 rfl ?_
            refine h_aald5 C e_hx_CS_taken_45 rfl rfl g16 rfl rfl rfl rfl (by decide) c11.1 c11.2 c12 (fun g17 => ?_)
            refine h_blk 47 [(0, vr 8 o), (1, vi a0), (2, vi a1), (3, vi a2)] [vi a1, vr 2 ((q1.2 21 ((q1.2 8 o 2).toNat) a0.toNat).toNat)] C f_hx_CS_taken_46_1 rfl ?_
            obtain ⟨q18, e19, h⟩ := obd h
            refine h_callV C Rm Y [vi a1] [] (hx_Prog_stepAt l D B H0 G _ ((q1.2 21 ((q1.2 8 o 2).toNat) a0.toNat).toNat) a1 g17 _ _ e19) cl_CS_114 g17 rfl rfl rfl e_hx_CS_taken_47 rfl rfl rfl ⟨by decide, by decide⟩ ?_
            rintro _ _ ⟨rfl, rfl, g20⟩
            show HM g D G q q18.2 50 [(0, vr 8 o), (1, vi a0), (2, vi a1), (3, vi a2)] [vr 6 q18.1.toNat]
            refine h_geti C e_hx_CS_taken_50 fg_CS_118 g20 rfl rfl rfl (q18.2 6 q18.1.toNat 0) rfl ?_
            refine h_blk 58 [(4, vi (q18.2 6 q18.1.toNat 0)), (0, vr 8 o), (1, vi a0), (2, vi a1), (3, vi a2)] [vi a2, vi (q18.2 6 q18.1.toNat 0)] C f_hx_CS_taken_53_3 rfl ?_
            obtain ⟨q21, e22, h⟩ := obd h
            refine h_callS C Rm Y [vi (q18.2 6 q18.1.toNat 0), vi a2] [] (hx_CS_isOfGroup l D B H0 G _ (q18.2 6 q18.1.toNat 0) a2 _ _ e22) cl_CS_136 e_hx_CS_taken_58 rfl rfl rfl ⟨by decide, by decide⟩ ?_
            rintro _ _ ⟨rfl, rfl⟩
            show HM g D G q q21.2 61 [(4, vi (q18.2 6 q18.1.toNat 0)), (0, vr 8 o), (1, vi a0), (2, vi a1), (3, vi a2)] [vi q21.1]
            obtain ⟨c23, h⟩ := igd h
            refine h_if_eq (tgt := 69) C e_hx_CS_taken_61 (by decide) c23 (fun c24 => ?_) (fun c24 => ?_)
            · have h := ifp c24 h
              refine h_blk 71 [(4, vi (q18.2 6 q18.1.toNat 0)), (0, vr 8 o), (1, vi a0), (2, vi a1), (3, vi a2)] [vi (-13)] C f_hx_CS_taken_69_1 rfl ?_
              exact h_iret C Rm E e_hx_CS_taken_71 (fin1 h)
            · have h := ifn c24 h
              refine h_blk 71 [(4, vi (q18.2 6 q18.1.toNat 0)), (0, vr 8 o), (1, vi a0), (2, vi a1), (3, vi a2)] [vi (q18.2 6 q18.1.toNat 0)] C f_hx_CS_taken_64_2 rfl ?_
              exact h_iret C Rm E e_hx_CS_taken_71 (fin1 h)
          · have h := ifn c15 h
            refine h_blk 39 [(0, vr 8 o), (1, vi a0), (2, vi a1), (3, vi a2)] [vi (-12)] C f_hx_CS_taken_37_1 rfl ?_
            exact h_iret C Rm E e_hx_CS_taken_39 (fin1 h)
      · have h := ifn c7 h
        refine h_blk 19 [(0, vr 8 o), (1, vi a0), (2, vi a1), (3, vi a2)] [vi (-2)] C f_hx_CS_taken_17_1 rfl ?_
        exact h_iret C Rm E e_hx_CS_taken_19 (fin1 h)

def f_Mo_isProgram (A : mA) (a0 : Int) : Option (Int × mA) := (Option.bind (f_Mo_in A a0 0 ((A 0 0 0) - 1)) (fun q1 => (if (q1.1 = 0 ∨ q1.1 = 1) then (some (q1.1, q1.2)) else none)))
theorem f_x_Mo_isProgram_0_3 : mblkB b_Mo_isProgram [(0, .iload_n 1, vi 0), (1, .iconst 0, vi 0), (2, .aload_n 0, vi 0)] = true := by decide +kernel
theorem e_x_Mo_isProgram_3 : decode b_Mo_isProgram 3 = .ok (.getfield 105, 3) := by decide +kernel
theorem f_x_Mo_isProgram_6_2 : mblkB b_Mo_isProgram [(6, .iconst 1, vi 1), (7, .isub, vi 0)] = true := by decide +kernel
theorem e_x_Mo_isProgram_8 : decode b_Mo_isProgram 8 = .ok (.invokestatic 108, 3) := by decide +kernel
theorem e_x_Mo_isProgram_11 : decode b_Mo_isProgram 11 = .ok (.ireturn, 1) := by decide +kernel
set_option maxHeartbeats 4000000 in
set_option maxRecDepth 20000 in
theorem x_Mo_isProgram  : ∀ (l : Launch) (D : va_G) (B : Nat) (H0 : Heap) (ad : mAd) (A : mA) (a0 : Int) (hS : mStr D ad) (r9 : Int) (A9 : mA), f_Mo_isProgram  A a0 = some (r9, A9) → mMet l D B H0 ad y_Mo_isProgram b_Mo_isProgram 2 (some .boolean) 1 22 [vr 0 0, vi a0] A (fun v A' => v = some (vi r9) ∧ A' = A9) := by
  intro l D B H0 ad A a0  hS r9 A9 h
  refine m_met (by decide) rfl (fun g w0 C Rm Y E => ?_)
  show JM g D ad w0 A 0 [(0, vr 0 0), (1, vi a0)] []
  unfold f_Mo_isProgram at h
  refine m_blk 3 [(0, vr 0 0), (1, vi a0)] [vr 0 0, vi 0, vi a0] C f_x_Mo_isProgram_0_3 rfl ?_
  refine m_geti C e_x_Mo_isProgram_3 fg_Mo_105 rfl (by decide) rfl (A 0 0 0) rfl ?_
  refine m_blk 8 [(0, vr 0 0), (1, vi a0)] [vi ((A 0 0 0) - 1), vi 0, vi a0] C f_x_Mo_isProgram_6_2 rfl ?_
  obtain ⟨q1, e2, h⟩ := obd h
  refine m_callS C Rm Y [vi a0, vi 0, vi ((A 0 0 0) - 1)] [] (x_Mo_in l D B H0 ad _ a0 0 ((A 0 0 0) - 1) hS _ _ e2) cl_Mo_108 e_x_Mo_isProgram_8 rfl rfl rfl ⟨by decide, by decide⟩ ?_
  rintro _ _ ⟨rfl, rfl⟩
  show JM g D ad w0 q1.2 11 [(0, vr 0 0), (1, vi a0)] [vi q1.1]
  obtain ⟨c3, h⟩ := igd h
  exact m_zret C Rm E c3 e_x_Mo_isProgram_11 (fin1 h)

def f_Mo_taken (A : mA) (a0 : Int) (a1 : Int) (a2 : Int) : Option (Int × mA) := (Option.bind (f_Mo_isProgram A a0) (fun q1 => (if g32 q1.1 then (if q1.1 = 0 then (some ((-2), q1.2)) else (Option.bind (f_Mo_in q1.2 a2 0 2) (fun q5 => (if g32 q5.1 then (if q5.1 = 0 then (some ((-2), q5.2)) else (if (0 ≤ a0 ∧ a0 < ((6 : Nat) : Int)) then (Option.bind (f_Mo_in q5.2 a1 0 ((q5.2 5 0 a0.toNat) - 1)) (fun q10 => (if g32 q10.1 then (if q10.1 = 0 then (some ((-12), q10.2)) else (if (0 ≤ a1 ∧ a1 < ((16 : Nat) : Int)) then (if g32 a2 then (if a2 = 0 then (if g32 (q10.2 34 a0.toNat a1.toNat) then (if (q10.2 34 a0.toNat a1.toNat) < 2 then (some ((q10.2 34 a0.toNat a1.toNat), q10.2)) else (if (q10.2 34 a0.toNat a1.toNat) = 5 then (some ((q10.2 34 a0.toNat a1.toNat), q10.2)) else (some ((-13), q10.2)))) else none) else (if a2 = 1 then (if g32 (q10.2 34 a0.toNat a1.toNat) then (if (q10.2 34 a0.toNat a1.toNat) = 3 then (some ((q10.2 34 a0.toNat a1.toNat), q10.2)) else (if (q10.2 34 a0.toNat a1.toNat) = 4 then (some ((q10.2 34 a0.toNat a1.toNat), q10.2)) else (some ((-13), q10.2)))) else none) else (if g32 (q10.2 34 a0.toNat a1.toNat) then (if (q10.2 34 a0.toNat a1.toNat) = 0 then (some ((-13), q10.2)) else (if (q10.2 34 a0.toNat a1.toNat) = 4 then (some ((-13), q10.2)) else (some ((q10.2 34 a0.toNat a1.toNat), q10.2)))) else none))) else none) else none)) else none))) else none)) else none)))) else none)))
theorem f_x_Mo_taken_0_2 : mblkB b_Mo_taken_1 [(0, .aload_n 0, vi 0), (1, .iload_n 1, vi 0)] = true := by decide +kernel
theorem e_x_Mo_taken_2 : decode b_Mo_taken_1 2 = .ok (.invokevirtual 364, 3) := by decide +kernel
theorem e_x_Mo_taken_5 : decode b_Mo_taken_1 5 = .ok (.ifCond .eq 12, 3) := by decide +kernel
theorem f_x_Mo_taken_17_1 : mblkB b_Mo_taken_1 [(17, .bipush (-2), vi (-2))] = true := by decide +kernel
theorem e_x_Mo_taken_19 : decode b_Mo_taken_1 19 = .ok (.ireturn, 1) := by decide +kernel
theorem f_x_Mo_taken_8_3 : mblkB b_Mo_taken_1 [(8, .iload_n 3, vi 0), (9, .iconst 0, vi 0), (10, .iconst 2, vi 2)] = true := by decide +kernel
theorem e_x_Mo_taken_11 : decode b_Mo_taken_1 11 = .ok (.invokestatic 108, 3) := by decide +kernel
theorem e_x_Mo_taken_14 : decode b_Mo_taken_1 14 = .ok (.ifCond .ne 6, 3) := by decide +kernel
theorem f_x_Mo_taken_20_3 : mblkB b_Mo_taken_1 [(20, .iload_n 2, vi 0), (21, .iconst 0, vi 0), (22, .aload_n 0, vi 0)] = true := by decide +kernel
theorem e_x_Mo_taken_23 : decode b_Mo_taken_1 23 = .ok (.getfield 9, 3) := by decide +kernel
theorem f_x_Mo_taken_26_1 : mblkB b_Mo_taken_1 [(26, .iload_n 1, vi 0)] = true := by decide +kernel
theorem e_x_Mo_taken_27 : decode b_Mo_taken_1 27 = .ok (.iaload, 1) := by decide +kernel
theorem f_x_Mo_taken_28_2 : mblkB b_Mo_taken_1 [(28, .iconst 1, vi 1), (29, .isub, vi 0)] = true := by decide +kernel
theorem e_x_Mo_taken_30 : decode b_Mo_taken_1 30 = .ok (.invokestatic 108, 3) := by decide +kernel
theorem e_x_Mo_taken_33 : decode b_Mo_taken_1 33 = .ok (.ifCond .ne 6, 3) := by decide +kernel
theorem f_x_Mo_taken_39_1 : mblkB b_Mo_taken_1 [(39, .aload_n 0, vi 0)] = true := by decide +kernel
theorem e_x_Mo_taken_40 : decode b_Mo_taken_1 40 = .ok (.getfield 21, 3) := by decide +kernel
theorem f_x_Mo_taken_43_1 : mblkB b_Mo_taken_1 [(43, .iload_n 1, vi 0)] = true := by decide +kernel
theorem e_x_Mo_taken_44 : decode b_Mo_taken_1 44 = .ok (.aaload, 1) := by decide +kernel
theorem f_x_Mo_taken_45_1 : mblkB b_Mo_taken_1 [(45, .iload_n 2, vi 0)] = true := by decide +kernel
theorem e_x_Mo_taken_46 : decode b_Mo_taken_1 46 = .ok (.iaload, 1) := by decide +kernel
theorem f_x_Mo_taken_47_2 : mblkB b_Mo_taken_1 [(47, .istore 4, vi 0), (49, .iload_n 3, vi 0)] = true := by decide +kernel
theorem e_x_Mo_taken_50 : decode b_Mo_taken_1 50 = .ok (.ifCond .ne 23, 3) := by decide +kernel
theorem f_x_Mo_taken_73_2 : mblkB b_Mo_taken_1 [(73, .iload_n 3, vi 0), (74, .iconst 1, vi 1)] = true := by decide +kernel
theorem e_x_Mo_taken_75 : decode b_Mo_taken_1 75 = .ok (.if_icmp .ne 23, 3) := by decide +kernel
theorem f_x_Mo_taken_98_1 : mblkB b_Mo_taken_1 [(98, .iload 4, vi 0)] = true := by decide +kernel
theorem e_x_Mo_taken_100 : decode b_Mo_taken_1 100 = .ok (.ifCond .eq 13, 3) := by decide +kernel
theorem f_x_Mo_taken_113_3 : mblkB b_Mo_taken_1 [(113, .iconst 0, vi 0), (114, .istore 5, vi 0), (116, .iload 5, vi 0)] = true := by decide +kernel
theorem e_x_Mo_taken_118 : decode b_Mo_taken_1 118 = .ok (.ifCond .eq 8, 3) := by decide +kernel
theorem f_x_Mo_taken_126_1 : mblkB b_Mo_taken_1 [(126, .bipush (-13), vi (-13))] = true := by decide +kernel
theorem e_x_Mo_taken_128 : decode b_Mo_taken_1 128 = .ok (.ireturn, 1) := by decide +kernel
theorem f_x_Mo_taken_103_2 : mblkB b_Mo_taken_1 [(103, .iload 4, vi 0), (105, .iconst 4, vi 4)] = true := by decide +kernel
theorem e_x_Mo_taken_106 : decode b_Mo_taken_1 106 = .ok (.if_icmp .eq 7, 3) := by decide +kernel
theorem f_x_Mo_taken_109_2 : mblkB b_Mo_taken_1 [(109, .iconst 1, vi 1), (110, .goto 4, vi 114)] = true := by decide +kernel
theorem f_x_Mo_taken_114_2 : mblkB b_Mo_taken_1 [(114, .istore 5, vi 0), (116, .iload 5, vi 0)] = true := by decide +kernel
theorem f_x_Mo_taken_121_2 : mblkB b_Mo_taken_1 [(121, .iload 4, vi 0), (123, .goto 5, vi 128)] = true := by decide +kernel
theorem f_x_Mo_taken_78_2 : mblkB b_Mo_taken_1 [(78, .iload 4, vi 0), (80, .iconst 3, vi 3)] = true := by decide +kernel
theorem e_x_Mo_taken_81 : decode b_Mo_taken_1 81 = .ok (.if_icmp .eq 9, 3) := by decide +kernel
theorem f_x_Mo_taken_90_2 : mblkB b_Mo_taken_1 [(90, .iconst 1, vi 1), (91, .goto 23, vi 114)] = true := by decide +kernel
theorem f_x_Mo_taken_84_2 : mblkB b_Mo_taken_1 [(84, .iload 4, vi 0), (86, .iconst 4, vi 4)] = true := by decide +kernel
theorem e_x_Mo_taken_87 : decode b_Mo_taken_1 87 = .ok (.if_icmp .ne 7, 3) := by decide +kernel
theorem f_x_Mo_taken_94_2 : mblkB b_Mo_taken_1 [(94, .iconst 0, vi 0), (95, .goto 19, vi 114)] = true := by decide +kernel
theorem f_x_Mo_taken_53_2 : mblkB b_Mo_taken_1 [(53, .iload 4, vi 0), (55, .iconst 2, vi 2)] = true := by decide +kernel
theorem e_x_Mo_taken_56 : decode b_Mo_taken_1 56 = .ok (.if_icmp .lt 9, 3) := by decide +kernel
theorem f_x_Mo_taken_65_2 : mblkB b_Mo_taken_1 [(65, .iconst 1, vi 1), (66, .goto 48, vi 114)] = true := by decide +kernel
theorem f_x_Mo_taken_59_2 : mblkB b_Mo_taken_1 [(59, .iload 4, vi 0), (61, .iconst 5, vi 5)] = true := by decide +kernel
theorem e_x_Mo_taken_62 : decode b_Mo_taken_1 62 = .ok (.if_icmp .ne 7, 3) := by decide +kernel
theorem f_x_Mo_taken_69_2 : mblkB b_Mo_taken_1 [(69, .iconst 0, vi 0), (70, .goto 44, vi 114)] = true := by decide +kernel
theorem f_x_Mo_taken_36_1 : mblkB b_Mo_taken_1 [(36, .bipush (-12), vi (-12))] = true := by decide +kernel
theorem e_x_Mo_taken_38 : decode b_Mo_taken_1 38 = .ok (.ireturn, 1) := by decide +kernel
set_option maxHeartbeats 4000000 in
set_option maxRecDepth 20000 in
theorem x_Mo_taken  : ∀ (l : Launch) (D : va_G) (B : Nat) (H0 : Heap) (ad : mAd) (A : mA) (a0 : Int) (a1 : Int) (a2 : Int) (hS : mStr D ad) (r9 : Int) (A9 : mA), f_Mo_taken  A a0 a1 a2 = some (r9, A9) → mMet l D B H0 ad y_Mo_taken_1 b_Mo_taken_1 6 (some .int) 2 43 [vr 0 0, vi a0, vi a1, vi a2] A (fun v A' => v = some (vi r9) ∧ A' = A9) := by
  intro l D B H0 ad A a0 a1 a2  hS r9 A9 h
  refine m_met (by decide) rfl (fun g w0 C Rm Y E => ?_)
  show JM g D ad w0 A 0 [(0, vr 0 0), (1, vi a0), (2, vi a1), (3, vi a2)] []
  unfold f_Mo_taken at h
  refine m_blk 2 [(0, vr 0 0), (1, vi a0), (2, vi a1), (3, vi a2)] [vi a0, vr 0 0] C f_x_Mo_taken_0_2 rfl ?_
  obtain ⟨q1, e2, h⟩ := obd h
  refine m_callV C Rm Y [vi a0] [] (x_Mo_isProgram l D B H0 ad _ a0 hS _ _ e2) cl_Mo_364 rfl (by decide) rfl rfl e_x_Mo_taken_2 rfl rfl rfl ⟨by decide, by decide⟩ ?_
  rintro _ _ ⟨rfl, rfl⟩
  show JM g D ad w0 q1.2 5 [(0, vr 0 0), (1, vi a0), (2, vi a1), (3, vi a2)] [vi q1.1]
  obtain ⟨c3, h⟩ := igd h
  refine m_if_eq (tgt := 17) C e_x_Mo_taken_5 (by decide) c3 (fun c4 => ?_) (fun c4 => ?_)
  · have h := ifp c4 h
    refine m_blk 19 [(0, vr 0 0), (1, vi a0), (2, vi a1), (3, vi a2)] [vi (-2)] C f_x_Mo_taken_17_1 rfl ?_
    exact m_iret C Rm E e_x_Mo_taken_19 (fin1 h)
  · have h := ifn c4 h
    refine m_blk 11 [(0, vr 0 0), (1, vi a0), (2, vi a1), (3, vi a2)] [vi 2, vi 0, vi a2] C f_x_Mo_taken_8_3 rfl ?_
    obtain ⟨q5, e6, h⟩ := obd h
    refine m_callS C Rm Y [vi a2, vi 0, vi 2] [] (x_Mo_in l D B H0 ad _ a2 0 2 hS _ _ e6) cl_Mo_108 e_x_Mo_taken_11 rfl rfl rfl ⟨by decide, by decide⟩ ?_
    rintro _ _ ⟨rfl, rfl⟩
    show JM g D ad w0 q5.2 14 [(0, vr 0 0), (1, vi a0), (2, vi a1), (3, vi a2)] [vi q5.1]
    obtain ⟨c7, h⟩ := igd h
    refine m_if_ne (tgt := 20) C e_x_Mo_taken_14 (by decide) c7 (fun c8 => ?_) (fun c8 => ?_)
    · have h := ifn c8 h
      refine m_blk 23 [(0, vr 0 0), (1, vi a0), (2, vi a1), (3, vi a2)] [vr 0 0, vi 0, vi a1] C f_x_Mo_taken_20_3 rfl ?_
      refine m_getr C e_x_Mo_taken_23 fg_Mo_9 rfl (by decide) rfl ?_
      refine m_blk 27 [(0, vr 0 0), (1, vi a0), (2, vi a1), (3, vi a2)] [vi a0, vr 5 0, vi 0, vi a1] C f_x_Mo_taken_26_1 rfl ?_
      obtain ⟨c9, h⟩ := igd h
      refine m_iald C e_x_Mo_taken_27 rfl (by decide) (by decide) c9.1 c9.2 (q5.2 5 0 a0.toNat) rfl ?_
      refine m_blk 30 [(0, vr 0 0), (1, vi a0), (2, vi a1), (3, vi a2)] [vi ((q5.2 5 0 a0.toNat) - 1), vi 0, vi a1] C f_x_Mo_taken_28_2 rfl ?_
      obtain ⟨q10, e11, h⟩ := obd h
      refine m_callS C Rm Y [vi a1, vi 0, vi ((q5.2 5 0 a0.toNat) - 1)] [] (x_Mo_in l D B H0 ad _ a1 0 ((q5.2 5 0 a0.toNat) - 1) hS _ _ e11) cl_Mo_108 e_x_Mo_taken_30 rfl rfl rfl ⟨by decide, by decide⟩ ?_
      rintro _ _ ⟨rfl, rfl⟩
      show JM g D ad w0 q10.2 33 [(0, vr 0 0), (1, vi a0), (2, vi a1), (3, vi a2)] [vi q10.1]
      obtain ⟨c12, h⟩ := igd h
      refine m_if_ne (tgt := 39) C e_x_Mo_taken_33 (by decide) c12 (fun c13 => ?_) (fun c13 => ?_)
      · have h := ifn c13 h
        refine m_blk 40 [(0, vr 0 0), (1, vi a0), (2, vi a1), (3, vi a2)] [vr 0 0] C f_x_Mo_taken_39_1 rfl ?_
        refine m_getr C e_x_Mo_taken_40 fg_Mo_21 rfl (by decide) rfl ?_
        refine m_blk 44 [(0, vr 0 0), (1, vi a0), (2, vi a1), (3, vi a2)] [vi a0, vr 14 0] C f_x_Mo_taken_43_1 rfl ?_
        have k14 : a0.toNat < 6 := by omega
        refine m_aald C a0.toNat e_x_Mo_taken_44 rfl rfl rfl (by decide) (by decide) c9.1 c9.2 (mz _ _) ?_
        refine m_blk 46 [(0, vr 0 0), (1, vi a0), (2, vi a1), (3, vi a2)] [vi a1, vr 34 a0.toNat] C f_x_Mo_taken_45_1 rfl ?_
        obtain ⟨c15, h⟩ := igd h
        refine m_iald C e_x_Mo_taken_46 rfl k14 (by decide) c15.1 c15.2 (q10.2 34 a0.toNat a1.toNat) rfl ?_
        refine m_blk 50 [(4, vi (q10.2 34 a0.toNat a1.toNat)), (0, vr 0 0), (1, vi a0), (2, vi a1), (3, vi a2)] [vi a2] C f_x_Mo_taken_47_2 rfl ?_
        obtain ⟨c16, h⟩ := igd h
        refine m_if_ne (tgt := 73) C e_x_Mo_taken_50 (by decide) c16 (fun c17 => ?_) (fun c17 => ?_)
        · have h := ifn c17 h
          refine m_blk 75 [(4, vi (q10.2 34 a0.toNat a1.toNat)), (0, vr 0 0), (1, vi a0), (2, vi a1), (3, vi a2)] [vi 1, vi a2] C f_x_Mo_taken_73_2 rfl ?_
          refine m_icmp_ne (tgt := 98) C e_x_Mo_taken_75 (by decide) c16 (by decide) (fun c18 => ?_) (fun c18 => ?_)
          · have h := ifn c18 h
            refine m_blk 100 [(4, vi (q10.2 34 a0.toNat a1.toNat)), (0, vr 0 0), (1, vi a0), (2, vi a1), (3, vi a2)] [vi (q10.2 34 a0.toNat a1.toNat)] C f_x_Mo_taken_98_1 rfl ?_
            obtain ⟨c19, h⟩ := igd h
            refine m_if_eq (tgt := 113) C e_x_Mo_taken_100 (by decide) c19 (fun c20 => ?_) (fun c20 => ?_)
            · have h := ifp c20 h
              refine m_blk 118 [(5, vi 0), (4, vi (q10.2 34 a0.toNat a1.toNat)), (0, vr 0 0), (1, vi a0), (2, vi a1), (3, vi a2)] [vi 0] C f_x_Mo_taken_113_3 rfl ?_
              refine m_if_eq (tgt := 126) C e_x_Mo_taken_118 (by decide) (by decide) (fun c21 => ?_) (fun c21 => (by omega : False).elim)
              refine m_blk 128 [(5, vi 0), (4, vi (q10.2 34 a0.toNat a1.toNat)), (0, vr 0 0), (1, vi a0), (2, vi a1), (3, vi a2)] [vi (-13)] C f_x_Mo_taken_126_1 rfl ?_
              exact m_iret C Rm E e_x_Mo_taken_128 (fin1 h)
            · have h := ifn c20 h
              refine m_blk 106 [(4, vi (q10.2 34 a0.toNat a1.toNat)), (0, vr 0 0), (1, vi a0), (2, vi a1), (3, vi a2)] [vi 4, vi (q10.2 34 a0.toNat a1.toNat)] C f_x_Mo_taken_103_2 rfl ?_
              refine m_icmp_eq (tgt := 113) C e_x_Mo_taken_106 (by decide) c19 (by decide) (fun c22 => ?_) (fun c22 => ?_)
              · have h := ifp c22 h
                refine m_blk 118 [(5, vi 0), (4, vi (q10.2 34 a0.toNat a1.toNat)), (0, vr 0 0), (1, vi a0), (2, vi a1), (3, vi a2)] [vi 0] C f_x_Mo_taken_113_3 rfl ?_
                refine m_if_eq (tgt := 126) C e_x_Mo_taken_118 (by decide) (by decide) (fun c23 => ?_) (fun c23 => (by omega : False).elim)
                refine m_blk 128 [(5, vi 0), (4, vi (q10.2 34 a0.toNat a1.toNat)), (0, vr 0 0), (1, vi a0), (2, vi a1), (3, vi a2)] [vi (-13)] C f_x_Mo_taken_126_1 rfl ?_
                exact m_iret C Rm E e_x_Mo_taken_128 (fin1 h)
              · have h := ifn c22 h
                refine m_blk 114 [(4, vi (q10.2 34 a0.toNat a1.toNat)), (0, vr 0 0), (1, vi a0), (2, vi a1), (3, vi a2)] [vi 1] C f_x_Mo_taken_109_2 rfl ?_
                refine m_blk 118 [(5, vi 1), (4, vi (q10.2 34 a0.toNat a1.toNat)), (0, vr 0 0), (1, vi a0), (2, vi a1), (3, vi a2)] [vi 1] C f_x_Mo_taken_114_2 rfl ?_
                refine m_if_eq (tgt := 126) C e_x_Mo_taken_118 (by decide) (by decide) (fun c24 => (by omega : False).elim) (fun c24 => ?_)
                refine m_blk 128 [(5, vi 1), (4, vi (q10.2 34 a0.toNat a1.toNat)), (0, vr 0 0), (1, vi a0), (2, vi a1), (3, vi a2)] [vi (q10.2 34 a0.toNat a1.toNat)] C f_x_Mo_taken_121_2 rfl ?_
                exact m_iret C Rm E e_x_Mo_taken_128 (fin1 h)
          · have h := ifp c18 h
            refine m_blk 81 [(4, vi (q10.2 34 a0.toNat a1.toNat)), (0, vr 0 0), (1, vi a0), (2, vi a1), (3, vi a2)] [vi 3, vi (q10.2 34 a0.toNat a1.toNat)] C f_x_Mo_taken_78_2 rfl ?_
            obtain ⟨c25, h⟩ := igd h
            refine m_icmp_eq (tgt := 90) C e_x_Mo_taken_81 (by decide) c25 (by decide) (fun c26 => ?_) (fun c26 => ?_)
            · have h := ifp c26 h
              refine m_blk 114 [(4, vi (q10.2 34 a0.toNat a1.toNat)), (0, vr 0 0), (1, vi a0), (2, vi a1), (3, vi a2)] [vi 1] C f_x_Mo_taken_90_2 rfl ?_
              refine m_blk 118 [(5, vi 1), (4, vi (q10.2 34 a0.toNat a1.toNat)), (0, vr 0 0), (1, vi a0), (2, vi a1), (3, vi a2)] [vi 1] C f_x_Mo_taken_114_2 rfl ?_
              refine m_if_eq (tgt := 126) C e_x_Mo_taken_118 (by decide) (by decide) (fun c27 => (by omega : False).elim) (fun c27 => ?_)
              refine m_blk 128 [(5, vi 1), (4, vi (q10.2 34 a0.toNat a1.toNat)), (0, vr 0 0), (1, vi a0), (2, vi a1), (3, vi a2)] [vi (q10.2 34 a0.toNat a1.toNat)] C f_x_Mo_taken_121_2 rfl ?_
              exact m_iret C Rm E e_x_Mo_taken_128 (fin1 h)
            · have h := ifn c26 h
              refine m_blk 87 [(4, vi (q10.2 34 a0.toNat a1.toNat)), (0, vr 0 0), (1, vi a0), (2, vi a1), (3, vi a2)] [vi 4, vi (q10.2 34 a0.toNat a1.toNat)] C f_x_Mo_taken_84_2 rfl ?_
              refine m_icmp_ne (tgt := 94) C e_x_Mo_taken_87 (by decide) c25 (by decide) (fun c28 => ?_) (fun c28 => ?_)
              · have h := ifn c28 h
                refine m_blk 114 [(4, vi (q10.2 34 a0.toNat a1.toNat)), (0, vr 0 0), (1, vi a0), (2, vi a1), (3, vi a2)] [vi 0] C f_x_Mo_taken_94_2 rfl ?_
                refine m_blk 118 [(5, vi 0), (4, vi (q10.2 34 a0.toNat a1.toNat)), (0, vr 0 0), (1, vi a0), (2, vi a1), (3, vi a2)] [vi 0] C f_x_Mo_taken_114_2 rfl ?_
                refine m_if_eq (tgt := 126) C e_x_Mo_taken_118 (by decide) (by decide) (fun c29 => ?_) (fun c29 => (by omega : False).elim)
                refine m_blk 128 [(5, vi 0), (4, vi (q10.2 34 a0.toNat a1.toNat)), (0, vr 0 0), (1, vi a0), (2, vi a1), (3, vi a2)] [vi (-13)] C f_x_Mo_taken_126_1 rfl ?_
                exact m_iret C Rm E e_x_Mo_taken_128 (fin1 h)
              · have h := ifp c28 h
                refine m_blk 114 [(4, vi (q10.2 34 a0.toNat a1.toNat)), (0, vr 0 0), (1, vi a0), (2, vi a1), (3, vi a2)] [vi 1] C f_x_Mo_taken_90_2 rfl ?_
                refine m_blk 118 [(5, vi 1), (4, vi (q10.2 34 a0.toNat a1.toNat)), (0, vr 0 0), (1, vi a0), (2, vi a1), (3, vi a2)] [vi 1] C f_x_Mo_taken_114_2 rfl ?_
                refine m_if_eq (tgt := 126) C e_x_Mo_taken_118 (by decide) (by decide) (fun c30 => (by omega : False).elim) (fun c30 => ?_)
                refine m_blk 128 [(5, vi 1), (4, vi (q10.2 34 a0.toNat a1.toNat)), (0, vr 0 0), (1, vi a0), (2, vi a1), (3, vi a2)] [vi (q10.2 34 a0.toNat a1.toNat)] C f_x_Mo_taken_121_2 rfl ?_
                exact m_iret C Rm E e_x_Mo_taken_128 (fin1 h)
        · have h := ifp c17 h
          refine m_blk 56 [(4, vi (q10.2 34 a0.toNat a1.toNat)), (0, vr 0 0), (1, vi a0), (2, vi a1), (3, vi a2)] [vi 2, vi (q10.2 34 a0.toNat a1.toNat)] C f_x_Mo_taken_53_2 rfl ?_
          obtain ⟨c31, h⟩ := igd h
          refine m_icmp_lt (tgt := 65) C e_x_Mo_taken_56 (by decide) c31 (by decide) (fun c32 => ?_) (fun c32 => ?_)
          · have h := ifp c32 h
            refine m_blk 114 [(4, vi (q10.2 34 a0.toNat a1.toNat)), (0, vr 0 0), (1, vi a0), (2, vi a1), (3, vi a2)] [vi 1] C f_x_Mo_taken_65_2 rfl ?_
            refine m_blk 118 [(5, vi 1), (4, vi (q10.2 34 a0.toNat a1.toNat)), (0, vr 0 0), (1, vi a0), (2, vi a1), (3, vi a2)] [vi 1] C f_x_Mo_taken_114_2 rfl ?_
            refine m_if_eq (tgt := 126) C e_x_Mo_taken_118 (by decide) (by decide) (fun c33 => (by omega : False).elim) (fun c33 => ?_)
            refine m_blk 128 [(5, vi 1), (4, vi (q10.2 34 a0.toNat a1.toNat)), (0, vr 0 0), (1, vi a0), (2, vi a1), (3, vi a2)] [vi (q10.2 34 a0.toNat a1.toNat)] C f_x_Mo_taken_121_2 rfl ?_
            exact m_iret C Rm E e_x_Mo_taken_128 (fin1 h)
          · have h := ifn c32 h
            refine m_blk 62 [(4, vi (q10.2 34 a0.toNat a1.toNat)), (0, vr 0 0), (1, vi a0), (2, vi a1), (3, vi a2)] [vi 5, vi (q10.2 34 a0.toNat a1.toNat)] C f_x_Mo_taken_59_2 rfl ?_
            refine m_icmp_ne (tgt := 69) C e_x_Mo_taken_62 (by decide) c31 (by decide) (fun c34 => ?_) (fun c34 => ?_)
            · have h := ifn c34 h
              refine m_blk 114 [(4, vi (q10.2 34 a0.toNat a1.toNat)), (0, vr 0 0), (1, vi a0), (2, vi a1), (3, vi a2)] [vi 0] C f_x_Mo_taken_69_2 rfl ?_
              refine m_blk 118 [(5, vi 0), (4, vi (q10.2 34 a0.toNat a1.toNat)), (0, vr 0 0), (1, vi a0), (2, vi a1), (3, vi a2)] [vi 0] C f_x_Mo_taken_114_2 rfl ?_
              refine m_if_eq (tgt := 126) C e_x_Mo_taken_118 (by decide) (by decide) (fun c35 => ?_) (fun c35 => (by omega : False).elim)
              refine m_blk 128 [(5, vi 0), (4, vi (q10.2 34 a0.toNat a1.toNat)), (0, vr 0 0), (1, vi a0), (2, vi a1), (3, vi a2)] [vi (-13)] C f_x_Mo_taken_126_1 rfl ?_
              exact m_iret C Rm E e_x_Mo_taken_128 (fin1 h)
            · have h := ifp c34 h
              refine m_blk 114 [(4, vi (q10.2 34 a0.toNat a1.toNat)), (0, vr 0 0), (1, vi a0), (2, vi a1), (3, vi a2)] [vi 1] C f_x_Mo_taken_65_2 rfl ?_
              refine m_blk 118 [(5, vi 1), (4, vi (q10.2 34 a0.toNat a1.toNat)), (0, vr 0 0), (1, vi a0), (2, vi a1), (3, vi a2)] [vi 1] C f_x_Mo_taken_114_2 rfl ?_
              refine m_if_eq (tgt := 126) C e_x_Mo_taken_118 (by decide) (by decide) (fun c36 => (by omega : False).elim) (fun c36 => ?_)
              refine m_blk 128 [(5, vi 1), (4, vi (q10.2 34 a0.toNat a1.toNat)), (0, vr 0 0), (1, vi a0), (2, vi a1), (3, vi a2)] [vi (q10.2 34 a0.toNat a1.toNat)] C f_x_Mo_taken_121_2 rfl ?_
              exact m_iret C Rm E e_x_Mo_taken_128 (fin1 h)
      · have h := ifp c13 h
        refine m_blk 38 [(0, vr 0 0), (1, vi a0), (2, vi a1), (3, vi a2)] [vi (-12)] C f_x_Mo_taken_36_1 rfl ?_
        exact m_iret C Rm E e_x_Mo_taken_38 (fin1 h)
    · have h := ifp c8 h
      refine m_blk 19 [(0, vr 0 0), (1, vi a0), (2, vi a1), (3, vi a2)] [vi (-2)] C f_x_Mo_taken_17_1 rfl ?_
      exact m_iret C Rm E e_x_Mo_taken_19 (fin1 h)

