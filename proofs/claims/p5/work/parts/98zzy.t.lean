/-! let of both as functions (own work, by program) -/
def f_CS_isName (A : mA) (a0 : Int) : Option (Int × mA) := (if g32 a0 then (if a0 < 0 then (some (0, A)) else (if 6 ≤ a0 then (some (0, A)) else (some (1, A)))) else none)
theorem f_hx_CS_isName_0_1 : mblkB b_CS_isName [(0, .iload_n 0, vi 0)] = true := by decide +kernel
theorem e_hx_CS_isName_1 : decode b_CS_isName 1 = .ok (.ifCond .lt 13, 3) := by decide +kernel
theorem f_hx_CS_isName_14_1 : mblkB b_CS_isName [(14, .iconst 0, vi 0)] = true := by decide +kernel
theorem e_hx_CS_isName_15 : decode b_CS_isName 15 = .ok (.ireturn, 1) := by decide +kernel
theorem f_hx_CS_isName_4_2 : mblkB b_CS_isName [(4, .iload_n 0, vi 0), (5, .bipush 6, vi 6)] = true := by decide +kernel
theorem e_hx_CS_isName_7 : decode b_CS_isName 7 = .ok (.if_icmp .ge 7, 3) := by decide +kernel
theorem f_hx_CS_isName_10_2 : mblkB b_CS_isName [(10, .iconst 1, vi 1), (11, .goto 4, vi 15)] = true := by decide +kernel
set_option maxHeartbeats 4000000 in
set_option maxRecDepth 20000 in
theorem hx_CS_isName  : ∀ (l : Launch) (D : va_G) (B : Nat) (H0 : Heap) (G : tG) (A : mA) (a0 : Int)  (r9 : Int) (A9 : mA), f_CS_isName  A a0 = some (r9, A9) → hMet l D B H0 G y_CS_isName b_CS_isName 1 (some .boolean) 0 0 [vi a0] A (fun v A' => v = some (vi r9) ∧ A' = A9) := by
  intro l D B H0 G A a0  r9 A9 h
  refine h_met (by decide) rfl (fun g q C Rm Y E => ?_)
  show HM g D G q A 0 [(0, vi a0)] []
  unfold f_CS_isName at h
  refine h_blk 1 [(0, vi a0)] [vi a0] C f_hx_CS_isName_0_1 rfl ?_
  obtain ⟨c1, h⟩ := igd h
  refine h_if_lt (tgt := 14) C e_hx_CS_isName_1 (by decide) c1 (fun c2 => ?_) (fun c2 => ?_)
  · have h := ifp c2 h
    refine h_blk 15 [(0, vi a0)] [vi 0] C f_hx_CS_isName_14_1 rfl ?_
    exact h_zret C Rm E (Or.inl rfl) e_hx_CS_isName_15 (fin1 h)
  · have h := ifn c2 h
    refine h_blk 7 [(0, vi a0)] [vi 6, vi a0] C f_hx_CS_isName_4_2 rfl ?_
    refine h_icmp_ge (tgt := 14) C e_hx_CS_isName_7 (by decide) c1 (by decide) (fun c3 => ?_) (fun c3 => ?_)
    · have h := ifp c3 h
      refine h_blk 15 [(0, vi a0)] [vi 0] C f_hx_CS_isName_14_1 rfl ?_
      exact h_zret C Rm E (Or.inl rfl) e_hx_CS_isName_15 (fin1 h)
    · have h := ifn c3 h
      refine h_blk 15 [(0, vi a0)] [vi 1] C f_hx_CS_isName_10_2 rfl ?_
      exact h_zret C Rm E (Or.inr rfl) e_hx_CS_isName_15 (fin1 h)

def f_CS_isValue (A : mA) (a0 : Int) : Option (Int × mA) := (if g32 a0 then (if a0 < 0 then (some (0, A)) else (if 10 ≤ a0 then (some (0, A)) else (some (1, A)))) else none)
theorem f_hx_CS_isValue_0_1 : mblkB b_CS_isValue [(0, .iload_n 0, vi 0)] = true := by decide +kernel
theorem e_hx_CS_isValue_1 : decode b_CS_isValue 1 = .ok (.ifCond .lt 13, 3) := by decide +kernel
theorem f_hx_CS_isValue_14_1 : mblkB b_CS_isValue [(14, .iconst 0, vi 0)] = true := by decide +kernel
theorem e_hx_CS_isValue_15 : decode b_CS_isValue 15 = .ok (.ireturn, 1) := by decide +kernel
theorem f_hx_CS_isValue_4_2 : mblkB b_CS_isValue [(4, .iload_n 0, vi 0), (5, .bipush 10, vi 10)] = true := by decide +kernel
theorem e_hx_CS_isValue_7 : decode b_CS_isValue 7 = .ok (.if_icmp .ge 7, 3) := by decide +kernel
theorem f_hx_CS_isValue_10_2 : mblkB b_CS_isValue [(10, .iconst 1, vi 1), (11, .goto 4, vi 15)] = true := by decide +kernel
set_option maxHeartbeats 4000000 in
set_option maxRecDepth 20000 in
theorem hx_CS_isValue  : ∀ (l : Launch) (D : va_G) (B : Nat) (H0 : Heap) (G : tG) (A : mA) (a0 : Int)  (r9 : Int) (A9 : mA), f_CS_isValue  A a0 = some (r9, A9) → hMet l D B H0 G y_CS_isValue b_CS_isValue 1 (some .boolean) 0 0 [vi a0] A (fun v A' => v = some (vi r9) ∧ A' = A9) := by
  intro l D B H0 G A a0  r9 A9 h
  refine h_met (by decide) rfl (fun g q C Rm Y E => ?_)
  show HM g D G q A 0 [(0, vi a0)] []
  unfold f_CS_isValue at h
  refine h_blk 1 [(0, vi a0)] [vi a0] C f_hx_CS_isValue_0_1 rfl ?_
  obtain ⟨c1, h⟩ := igd h
  refine h_if_lt (tgt := 14) C e_hx_CS_isValue_1 (by decide) c1 (fun c2 => ?_) (fun c2 => ?_)
  · have h := ifp c2 h
    refine h_blk 15 [(0, vi a0)] [vi 0] C f_hx_CS_isValue_14_1 rfl ?_
    exact h_zret C Rm E (Or.inl rfl) e_hx_CS_isValue_15 (fin1 h)
  · have h := ifn c2 h
    refine h_blk 7 [(0, vi a0)] [vi 10, vi a0] C f_hx_CS_isValue_4_2 rfl ?_
    refine h_icmp_ge (tgt := 14) C e_hx_CS_isValue_7 (by decide) c1 (by decide) (fun c3 => ?_) (fun c3 => ?_)
    · have h := ifp c3 h
      refine h_blk 15 [(0, vi a0)] [vi 0] C f_hx_CS_isValue_14_1 rfl ?_
      exact h_zret C Rm E (Or.inl rfl) e_hx_CS_isValue_15 (fin1 h)
    · have h := ifn c3 h
      refine h_blk 15 [(0, vi a0)] [vi 1] C f_hx_CS_isValue_10_2 rfl ?_
      exact h_zret C Rm E (Or.inr rfl) e_hx_CS_isValue_15 (fin1 h)

def f_CS_shiftOf (A : mA) (a0 : Int) : Option (Int × mA) := (some (((5 - a0) * 4), A))
theorem f_hx_CS_shiftOf_0_5 : mblkB b_CS_shiftOf [(0, .iconst 5, vi 5), (1, .iload_n 0, vi 0), (2, .isub, vi 0), (3, .iconst 4, vi 4), (4, .imul, vi 0)] = true := by decide +kernel
theorem e_hx_CS_shiftOf_5 : decode b_CS_shiftOf 5 = .ok (.ireturn, 1) := by decide +kernel
set_option maxHeartbeats 4000000 in
set_option maxRecDepth 20000 in
theorem hx_CS_shiftOf  : ∀ (l : Launch) (D : va_G) (B : Nat) (H0 : Heap) (G : tG) (A : mA) (a0 : Int)  (r9 : Int) (A9 : mA), f_CS_shiftOf  A a0 = some (r9, A9) → hMet l D B H0 G y_CS_shiftOf b_CS_shiftOf 1 (some .int) 0 0 [vi a0] A (fun v A' => v = some (vi r9) ∧ A' = A9) := by
  intro l D B H0 G A a0  r9 A9 h
  refine h_met (by decide) rfl (fun g q C Rm Y E => ?_)
  show HM g D G q A 0 [(0, vi a0)] []
  unfold f_CS_shiftOf at h
  refine h_blk 5 [(0, vi a0)] [vi ((5 - a0) * 4)] C f_hx_CS_shiftOf_0_5 rfl ?_
  exact h_iret C Rm E e_hx_CS_shiftOf_5 (fin1 h)

def f_CS_digitAt (A : mA) (a0 : Int) (a1 : Int) : Option (Int × mA) := (some ((iAnd (iUsh a0 ((5 - a1) * 4)) 15), A))
theorem f_hx_CS_digitAt_0_9 : mblkB b_CS_digitAt [(0, .iload_n 0, vi 0), (1, .iconst 5, vi 5), (2, .iload_n 1, vi 0), (3, .isub, vi 0), (4, .iconst 4, vi 4), (5, .imul, vi 0), (6, .iushr, vi 0), (7, .bipush 15, vi 15), (9, .iand, vi 0)] = true := by decide +kernel
theorem e_hx_CS_digitAt_10 : decode b_CS_digitAt 10 = .ok (.ireturn, 1) := by decide +kernel
set_option maxHeartbeats 4000000 in
set_option maxRecDepth 20000 in
theorem hx_CS_digitAt  : ∀ (l : Launch) (D : va_G) (B : Nat) (H0 : Heap) (G : tG) (A : mA) (a0 : Int) (a1 : Int)  (r9 : Int) (A9 : mA), f_CS_digitAt  A a0 a1 = some (r9, A9) → hMet l D B H0 G y_CS_digitAt b_CS_digitAt 2 (some .int) 0 0 [vi a0, vi a1] A (fun v A' => v = some (vi r9) ∧ A' = A9) := by
  intro l D B H0 G A a0 a1  r9 A9 h
  refine h_met (by decide) rfl (fun g q C Rm Y E => ?_)
  show HM g D G q A 0 [(0, vi a0), (1, vi a1)] []
  unfold f_CS_digitAt at h
  refine h_blk 10 [(0, vi a0), (1, vi a1)] [vi (iAnd (iUsh a0 ((5 - a1) * 4)) 15)] C f_hx_CS_digitAt_0_9 rfl ?_
  exact h_iret C Rm E e_hx_CS_digitAt_10 (fin1 h)

def f_CS_withDigit (A : mA) (a0 : Int) (a1 : Int) (a2 : Int) : Option (Int × mA) := (Option.bind (f_CS_shiftOf A a1) (fun q1 => (Option.bind (f_CS_shiftOf q1.2 a1) (fun q3 => (some ((iOr (iAnd a0 (iXor (iShl 15 q1.1) (-1))) (iShl a2 q3.1)), q3.2))))))
theorem f_hx_CS_withDigit_0_3 : mblkB b_CS_withDigit [(0, .iload_n 0, vi 0), (1, .bipush 15, vi 15), (3, .iload_n 1, vi 0)] = true := by decide +kernel
theorem e_hx_CS_withDigit_4 : decode b_CS_withDigit 4 = .ok (.invokestatic 269, 3) := by decide +kernel
theorem f_hx_CS_withDigit_7_6 : mblkB b_CS_withDigit [(7, .ishl, vi 0), (8, .iconst (-1), vi (-1)), (9, .ixor, vi 0), (10, .iand, vi 0), (11, .iload_n 2, vi 0), (12, .iload_n 1, vi 0)] = true := by decide +kernel
theorem e_hx_CS_withDigit_13 : decode b_CS_withDigit 13 = .ok (.invokestatic 269, 3) := by decide +kernel
theorem f_hx_CS_withDigit_16_2 : mblkB b_CS_withDigit [(16, .ishl, vi 0), (17, .ior, vi 0)] = true := by decide +kernel
theorem e_hx_CS_withDigit_18 : decode b_CS_withDigit 18 = .ok (.ireturn, 1) := by decide +kernel
set_option maxHeartbeats 4000000 in
set_option maxRecDepth 20000 in
theorem hx_CS_withDigit  : ∀ (l : Launch) (D : va_G) (B : Nat) (H0 : Heap) (G : tG) (A : mA) (a0 : Int) (a1 : Int) (a2 : Int)  (r9 : Int) (A9 : mA), f_CS_withDigit  A a0 a1 a2 = some (r9, A9) → hMet l D B H0 G y_CS_withDigit b_CS_withDigit 3 (some .int) 1 20 [vi a0, vi a1, vi a2] A (fun v A' => v = some (vi r9) ∧ A' = A9) := by
  intro l D B H0 G A a0 a1 a2  r9 A9 h
  refine h_met (by decide) rfl (fun g q C Rm Y E => ?_)
  show HM g D G q A 0 [(0, vi a0), (1, vi a1), (2, vi a2)] []
  unfold f_CS_withDigit at h
  refine h_blk 4 [(0, vi a0), (1, vi a1), (2, vi a2)] [vi a1, vi 15, vi a0] C f_hx_CS_withDigit_0_3 rfl ?_
  obtain ⟨q1, e2, h⟩ := obd h
  refine h_callS C Rm Y [vi a1] [vi 15, vi a0] (hx_CS_shiftOf l D B H0 G _ a1 _ _ e2) cl_CS_269 e_hx_CS_withDigit_4 rfl rfl rfl ⟨by decide, by decide⟩ ?_
  rintro _ _ ⟨rfl, rfl⟩
  show HM g D G q q1.2 7 [(0, vi a0), (1, vi a1), (2, vi a2)] [vi q1.1, vi 15, vi a0]
  refine h_blk 13 [(0, vi a0), (1, vi a1), (2, vi a2)] [vi a1, vi a2, vi (iAnd a0 (iXor (iShl 15 q1.1) (-1)))] C f_hx_CS_withDigit_7_6 rfl ?_
  obtain ⟨q3, e4, h⟩ := obd h
  refine h_callS C Rm Y [vi a1] [vi a2, vi (iAnd a0 (iXor (iShl 15 q1.1) (-1)))] (hx_CS_shiftOf l D B H0 G _ a1 _ _ e4) cl_CS_269 e_hx_CS_withDigit_13 rfl rfl rfl ⟨by decide, by decide⟩ ?_
  rintro _ _ ⟨rfl, rfl⟩
  show HM g D G q q3.2 16 [(0, vi a0), (1, vi a1), (2, vi a2)] [vi q3.1, vi a2, vi (iAnd a0 (iXor (iShl 15 q1.1) (-1)))]
  refine h_blk 18 [(0, vi a0), (1, vi a1), (2, vi a2)] [vi (iOr (iAnd a0 (iXor (iShl 15 q1.1) (-1))) (iShl a2 q3.1))] C f_hx_CS_withDigit_16_2 rfl ?_
  exact h_iret C Rm E e_hx_CS_withDigit_18 (fin1 h)

def f_CS_let (A : mA) (o : Nat) (a0 : Int) (a1 : Int) : Option (Int × mA) := (Option.bind (f_CS_isName A a0) (fun q1 => (if g32 q1.1 then (if q1.1 = 0 then (some ((-2), q1.2)) else (Option.bind (f_CS_isValue q1.2 a1) (fun q5 => (if g32 q5.1 then (if q5.1 = 0 then (some ((-2), q5.2)) else (Option.bind (f_CS_digitAt q5.2 (q5.2 8 o 4) a0) (fun q9 => (Option.bind (f_CS_withDigit q9.2 (q9.2 8 o 4) a0 a1) (fun q11 => (some (q9.1, (mu q11.2 8 o 4 q11.1)))))))) else none)))) else none)))
theorem f_hx_CS_let_0_1 : mblkB b_CS_let [(0, .iload_n 1, vi 0)] = true := by decide +kernel
theorem e_hx_CS_let_1 : decode b_CS_let 1 = .ok (.invokestatic 77, 3) := by decide +kernel
theorem e_hx_CS_let_4 : decode b_CS_let 4 = .ok (.ifCond .eq 10, 3) := by decide +kernel
theorem f_hx_CS_let_14_1 : mblkB b_CS_let [(14, .bipush (-2), vi (-2))] = true := by decide +kernel
theorem e_hx_CS_let_16 : decode b_CS_let 16 = .ok (.ireturn, 1) := by decide +kernel
theorem f_hx_CS_let_7_1 : mblkB b_CS_let [(7, .iload_n 2, vi 0)] = true := by decide +kernel
theorem e_hx_CS_let_8 : decode b_CS_let 8 = .ok (.invokestatic 80, 3) := by decide +kernel
theorem e_hx_CS_let_11 : decode b_CS_let 11 = .ok (.ifCond .ne 6, 3) := by decide +kernel
theorem f_hx_CS_let_17_1 : mblkB b_CS_let [(17, .aload_n 0, vi 0)] = true := by decide +kernel
theorem e_hx_CS_let_18 : decode b_CS_let 18 = .ok (.getfield 83, 3) := by decide +kernel
theorem f_hx_CS_let_21_1 : mblkB b_CS_let [(21, .iload_n 1, vi 0)] = true := by decide +kernel
theorem e_hx_CS_let_22 : decode b_CS_let 22 = .ok (.invokestatic 86, 3) := by decide +kernel
theorem f_hx_CS_let_25_3 : mblkB b_CS_let [(25, .istore_n 3, vi 0), (26, .aload_n 0, vi 0), (27, .aload_n 0, vi 0)] = true := by decide +kernel
theorem e_hx_CS_let_28 : decode b_CS_let 28 = .ok (.getfield 83, 3) := by decide +kernel
theorem f_hx_CS_let_31_2 : mblkB b_CS_let [(31, .iload_n 1, vi 0), (32, .iload_n 2, vi 0)] = true := by decide +kernel
theorem e_hx_CS_let_33 : decode b_CS_let 33 = .ok (.invokestatic 90, 3) := by decide +kernel
theorem e_hx_CS_let_36 : decode b_CS_let 36 = .ok (.putfield 83, 3) := by decide +kernel
theorem f_hx_CS_let_39_1 : mblkB b_CS_let [(39, .iload_n 3, vi 0)] = true := by decide +kernel
theorem e_hx_CS_let_40 : decode b_CS_let 40 = .ok (.ireturn, 1) := by decide +kernel
set_option maxHeartbeats 4000000 in
set_option maxRecDepth 20000 in
theorem hx_CS_let  : ∀ (l : Launch) (D : va_G) (B : Nat) (H0 : Heap) (G : tG) (A : mA) (o : Nat) (a0 : Int) (a1 : Int) (h_o : G o = some 8)  (r9 : Int) (A9 : mA), f_CS_let  A o a0 a1 = some (r9, A9) → hMet l D B H0 G y_CS_let b_CS_let 4 (some .int) 2 42 [vr 8 o, vi a0, vi a1] A (fun v A' => v = some (vi r9) ∧ A' = A9) := by
  intro l D B H0 G A o a0 a1 h_o r9 A9 h
  refine h_met (by decide) rfl (fun g q C Rm Y E => ?_)
  show HM g D G q A 0 [(0, vr 8 o), (1, vi a0), (2, vi a1)] []
  unfold f_CS_let at h
  refine h_blk 1 [(0, vr 8 o), (1, vi a0), (2, vi a1)] [vi a0] C f_hx_CS_let_0_1 rfl ?_
  obtain ⟨q1, e2, h⟩ := obd h
  refine h_callS C Rm Y [vi a0] [] (hx_CS_isName l D B H0 G _ a0 _ _ e2) cl_CS_77 e_hx_CS_let_1 rfl rfl rfl ⟨by decide, by decide⟩ ?_
  rintro _ _ ⟨rfl, rfl⟩
  show HM g D G q q1.2 4 [(0, vr 8 o), (1, vi a0), (2, vi a1)] [vi q1.1]
  obtain ⟨c3, h⟩ := igd h
  refine h_if_eq (tgt := 14) C e_hx_CS_let_4 (by decide) c3 (fun c4 => ?_) (fun c4 => ?_)
  · have h := ifp c4 h
    refine h_blk 16 [(0, vr 8 o), (1, vi a0), (2, vi a1)] [vi (-2)] C f_hx_CS_let_14_1 rfl ?_
    exact h_iret C Rm E e_hx_CS_let_16 (fin1 h)
  · have h := ifn c4 h
    refine h_blk 8 [(0, vr 8 o), (1, vi a0), (2, vi a1)] [vi a1] C f_hx_CS_let_7_1 rfl ?_
    obtain ⟨q5, e6, h⟩ := obd h
    refine h_callS C Rm Y [vi a1] [] (hx_CS_isValue l D B H0 G _ a1 _ _ e6) cl_CS_80 e_hx_CS_let_8 rfl rfl rfl ⟨by decide, by decide⟩ ?_
    rintro _ _ ⟨rfl, rfl⟩
    show HM g D G q q5.2 11 [(0, vr 8 o), (1, vi a0), (2, vi a1)] [vi q5.1]
    obtain ⟨c7, h⟩ := igd h
    refine h_if_ne (tgt := 17) C e_hx_CS_let_11 (by decide) c7 (fun c8 => ?_) (fun c8 => ?_)
    · have h := ifn c8 h
      refine h_blk 18 [(0, vr 8 o), (1, vi a0), (2, vi a1)] [vr 8 o] C f_hx_CS_let_17_1 rfl ?_
      refine h_geti C e_hx_CS_let_18 fg_CS_83 h_o rfl rfl rfl (q5.2 8 o 4) rfl ?_
      refine h_blk 22 [(0, vr 8 o), (1, vi a0), (2, vi a1)] [vi a0, vi (q5.2 8 o 4)] C f_hx_CS_let_21_1 rfl ?_
      obtain ⟨q9, e10, h⟩ := obd h
      refine h_callS C Rm Y [vi (q5.2 8 o 4), vi a0] [] (hx_CS_digitAt l D B H0 G _ (q5.2 8 o 4) a0 _ _ e10) cl_CS_86 e_hx_CS_let_22 rfl rfl rfl ⟨by decide, by decide⟩ ?_
      rintro _ _ ⟨rfl, rfl⟩
      show HM g D G q q9.2 25 [(0, vr 8 o), (1, vi a0), (2, vi a1)] [vi q9.1]
      refine h_blk 28 [(3, vi q9.1), (0, vr 8 o), (1, vi a0), (2, vi a1)] [vr 8 o, vr 8 o] C f_hx_CS_let_25_3 rfl ?_
      refine h_geti C e_hx_CS_let_28 fg_CS_83 h_o rfl rfl rfl (q9.2 8 o 4) rfl ?_
      refine h_blk 33 [(3, vi q9.1), (0, vr 8 o), (1, vi a0), (2, vi a1)] [vi a1, vi a0, vi (q9.2 8 o 4), vr 8 o] C f_hx_CS_let_31_2 rfl ?_
      obtain ⟨q11, e12, h⟩ := obd h
      refine h_callS C Rm Y [vi (q9.2 8 o 4), vi a0, vi a1] [vr 8 o] (hx_CS_withDigit l D B H0 G _ (q9.2 8 o 4) a0 a1 _ _ e12) cl_CS_90 e_hx_CS_let_33 rfl rfl rfl ⟨by decide, by decide⟩ ?_
      rintro _ _ ⟨rfl, rfl⟩
      show HM g D G q q11.2 36 [(3, vi q9.1), (0, vr 8 o), (1, vi a0), (2, vi a1)] [vi q11.1, vr 8 o]
      refine h_puti C e_hx_CS_let_36 fp_CS_83 h_o rfl rfl rfl ?_
      refine h_blk 40 [(3, vi q9.1), (0, vr 8 o), (1, vi a0), (2, vi a1)] [vi q9.1] C f_hx_CS_let_39_1 rfl ?_
      exact h_iret C Rm E e_hx_CS_let_40 (fin1 h)
    · have h := ifp c8 h
      refine h_blk 16 [(0, vr 8 o), (1, vi a0), (2, vi a1)] [vi (-2)] C f_hx_CS_let_14_1 rfl ?_
      exact h_iret C Rm E e_hx_CS_let_16 (fin1 h)


