/-! the faces of the reference that ask for odds, and the sheets (own work, by program) -/
def f_Mo_isSheet (A : mA) (a0 : Int) : Option (Int × mA) := (Option.bind (f_Mo_in A a0 0 3) (fun q1 => (if (q1.1 = 0 ∨ q1.1 = 1) then (some (q1.1, q1.2)) else none)))
theorem f_x_Mo_isSheet_0_3 : mblkB b_Mo_isSheet [(0, .iload_n 0, vi 0), (1, .iconst 0, vi 0), (2, .iconst 3, vi 3)] = true := by decide +kernel
theorem e_x_Mo_isSheet_3 : decode b_Mo_isSheet 3 = .ok (.invokestatic 108, 3) := by decide +kernel
theorem e_x_Mo_isSheet_6 : decode b_Mo_isSheet 6 = .ok (.ireturn, 1) := by decide +kernel
set_option maxHeartbeats 4000000 in
set_option maxRecDepth 20000 in
theorem x_Mo_isSheet  : ∀ (l : Launch) (D : va_G) (B : Nat) (H0 : Heap) (ad : mAd) (A : mA) (a0 : Int) (hS : mStr D ad) (r9 : Int) (A9 : mA), f_Mo_isSheet  A a0 = some (r9, A9) → mMet l D B H0 ad y_Mo_isSheet b_Mo_isSheet 1 (some .boolean) 1 22 [vi a0] A (fun v A' => v = some (vi r9) ∧ A' = A9) := by
  intro l D B H0 ad A a0  hS r9 A9 h
  refine m_met (by decide) rfl (fun g w0 C Rm Y E => ?_)
  show JM g D ad w0 A 0 [(0, vi a0)] []
  unfold f_Mo_isSheet at h
  refine m_blk 3 [(0, vi a0)] [vi 3, vi 0, vi a0] C f_x_Mo_isSheet_0_3 rfl ?_
  obtain ⟨q1, e2, h⟩ := obd h
  refine m_callS C Rm Y [vi a0, vi 0, vi 3] [] (x_Mo_in l D B H0 ad _ a0 0 3 hS _ _ e2) cl_Mo_108 e_x_Mo_isSheet_3 rfl rfl rfl ⟨by decide, by decide⟩ ?_
  rintro _ _ ⟨rfl, rfl⟩
  show JM g D ad w0 q1.2 6 [(0, vi a0)] [vi q1.1]
  obtain ⟨c3, h⟩ := igd h
  exact m_zret C Rm E c3 e_x_Mo_isSheet_6 (fin1 h)

def f_Mo_weightOf_5 : Nat → mA → Nat → Int → Int → Int → Int → Option (Int × mA)
  | 0, _, _, _, _, _, _ => none
  | n + 1, A, b0, b1, b2, b3, b5 => (if g32 b5 then if g32 (A 1 b0 2) then (if (A 1 b0 2) ≤ b5 then (some (b3, A)) else (if (0 ≤ b5 ∧ b5 < ((301 : Nat) : Int)) then (Option.bind (f_Mo_valueOf A (A 3 b0 b5.toNat) b1) (fun q5 => (if g32 q5.1 then if g32 b2 then (if q5.1 = b2 then (f_Mo_weightOf_5  n q5.2 b0 b1 b2 (b3 + (q5.2 4 b0 b5.toNat)) (b5 + 1)) else (f_Mo_weightOf_5  n q5.2 b0 b1 b2 b3 (b5 + 1))) else none else none))) else none)) else none else none)
def f_Mo_weightOf (A : mA) (a0 : Nat) (a1 : Int) (a2 : Int) : Option (Int × mA) := (f_Mo_weightOf_5  310 A a0 a1 a2 0 0)
theorem f_x_Mo_weightOf_0_4 : mblkB b_Mo_weightOf [(0, .lconst 0, vl 0), (1, .lstore_n 3, vi 0), (2, .iconst 0, vi 0), (3, .istore 5, vi 0)] = true := by decide +kernel
theorem f_x_Mo_weightOf_5_2 : mblkB b_Mo_weightOf [(5, .iload 5, vi 0), (7, .aload_n 0, vi 0)] = true := by decide +kernel
theorem e_x_Mo_weightOf_8 : decode b_Mo_weightOf 8 = .ok (.getfield 272, 3) := by decide +kernel
theorem e_x_Mo_weightOf_11 : decode b_Mo_weightOf 11 = .ok (.if_icmp .ge 34, 3) := by decide +kernel
theorem f_x_Mo_weightOf_45_1 : mblkB b_Mo_weightOf [(45, .lload_n 3, vi 0)] = true := by decide +kernel
theorem e_x_Mo_weightOf_46 : decode b_Mo_weightOf 46 = .ok (.lreturn, 1) := by decide +kernel
theorem f_x_Mo_weightOf_14_1 : mblkB b_Mo_weightOf [(14, .aload_n 0, vi 0)] = true := by decide +kernel
theorem e_x_Mo_weightOf_15 : decode b_Mo_weightOf 15 = .ok (.getfield 279, 3) := by decide +kernel
theorem f_x_Mo_weightOf_18_1 : mblkB b_Mo_weightOf [(18, .iload 5, vi 0)] = true := by decide +kernel
theorem e_x_Mo_weightOf_20 : decode b_Mo_weightOf 20 = .ok (.iaload, 1) := by decide +kernel
theorem f_x_Mo_weightOf_21_1 : mblkB b_Mo_weightOf [(21, .iload_n 1, vi 0)] = true := by decide +kernel
theorem e_x_Mo_weightOf_22 : decode b_Mo_weightOf 22 = .ok (.invokestatic 260, 3) := by decide +kernel
theorem f_x_Mo_weightOf_25_1 : mblkB b_Mo_weightOf [(25, .iload_n 2, vi 0)] = true := by decide +kernel
theorem e_x_Mo_weightOf_26 : decode b_Mo_weightOf 26 = .ok (.if_icmp .ne 13, 3) := by decide +kernel
theorem f_x_Mo_weightOf_39_2 : mblkB b_Mo_weightOf [(39, .iinc 5 1, vi 1), (42, .goto (-37), vi 5)] = true := by decide +kernel
theorem f_x_Mo_weightOf_29_2 : mblkB b_Mo_weightOf [(29, .lload_n 3, vi 0), (30, .aload_n 0, vi 0)] = true := by decide +kernel
theorem e_x_Mo_weightOf_31 : decode b_Mo_weightOf 31 = .ok (.getfield 285, 3) := by decide +kernel
theorem f_x_Mo_weightOf_34_1 : mblkB b_Mo_weightOf [(34, .iload 5, vi 0)] = true := by decide +kernel
theorem e_x_Mo_weightOf_36 : decode b_Mo_weightOf 36 = .ok (.laload, 1) := by decide +kernel
theorem f_x_Mo_weightOf_37_4 : mblkB b_Mo_weightOf [(37, .ladd, vi 0), (38, .lstore_n 3, vi 0), (39, .iinc 5 1, vi 1), (42, .goto (-37), vi 5)] = true := by decide +kernel
set_option maxHeartbeats 4000000 in
set_option maxRecDepth 20000 in
theorem x_Mo_weightOf  : ∀ (l : Launch) (D : va_G) (B : Nat) (H0 : Heap) (ad : mAd) (A : mA) (a0 : Nat) (a1 : Int) (a2 : Int) (h_a0 : a0 < 200) (hS : mStr D ad) (r9 : Int) (A9 : mA), f_Mo_weightOf  A a0 a1 a2 = some (r9, A9) → mMet l D B H0 ad y_Mo_weightOf b_Mo_weightOf 6 (some .long) 2 43 [vr 1 a0, vi a1, vi a2] A (fun v A' => v = some (vl r9) ∧ A' = A9) := by
  intro l D B H0 ad A a0 a1 a2 h_a0 hS r9 A9 h
  refine m_met (by decide) rfl (fun g w0 C Rm Y E => ?_)
  have hd_5 : ∀ (n : Nat) (A : mA) (b0 : Nat) (b1 : Int) (b2 : Int) (b3 : Int) (b5 : Int) , b0 < 200 → f_Mo_weightOf_5  n A b0 b1 b2 b3 b5 = some (r9, A9) → JM g D ad w0 A 5 [(0, vr 1 b0), (1, vi b1), (2, vi b2), (3, vl b3), (5, vi b5)] [] := by
    intro n
    induction n with
    | zero => intro A b0 b1 b2 b3 b5 h_b0 h; cases h
    | succ n ih =>
      intro A b0 b1 b2 b3 b5 h_b0 h
      unfold f_Mo_weightOf_5 at h
      refine m_blk 8 [(0, vr 1 b0), (1, vi b1), (2, vi b2), (3, vl b3), (5, vi b5)] [vr 1 b0, vi b5] C f_x_Mo_weightOf_5_2 rfl ?_
      refine m_getiN C e_x_Mo_weightOf_8 fg_Mo_272 rfl (h_b0) rfl (A 1 b0 2) rfl ?_
      obtain ⟨c1, h⟩ := igd h
      obtain ⟨c2, h⟩ := igd h
      refine m_icmp_ge (tgt := 45) C e_x_Mo_weightOf_11 (by decide) c1 c2 (fun c3 => ?_) (fun c3 => ?_)
      · have h := ifp c3 h
        refine m_blk 46 [(0, vr 1 b0), (1, vi b1), (2, vi b2), (3, vl b3), (5, vi b5)] [vl b3] C f_x_Mo_weightOf_45_1 rfl ?_
        exact m_lret C Rm E e_x_Mo_weightOf_46 (finL h)
      · have h := ifn c3 h
        refine m_blk 15 [(0, vr 1 b0), (1, vi b1), (2, vi b2), (3, vl b3), (5, vi b5)] [vr 1 b0] C f_x_Mo_weightOf_14_1 rfl ?_
        refine m_getrN C e_x_Mo_weightOf_15 fg_Mo_279 rfl (h_b0) rfl ?_
        refine m_blk 20 [(0, vr 1 b0), (1, vi b1), (2, vi b2), (3, vl b3), (5, vi b5)] [vi b5, vr 3 b0] C f_x_Mo_weightOf_18_1 rfl ?_
        obtain ⟨c4, h⟩ := igd h
        refine m_iald C e_x_Mo_weightOf_20 rfl (h_b0) (by decide) c4.1 c4.2 (A 3 b0 b5.toNat) rfl ?_
        refine m_blk 22 [(0, vr 1 b0), (1, vi b1), (2, vi b2), (3, vl b3), (5, vi b5)] [vi b1, vi (A 3 b0 b5.toNat)] C f_x_Mo_weightOf_21_1 rfl ?_
        obtain ⟨q5, e6, h⟩ := obd h
        refine m_callS C Rm Y [vi (A 3 b0 b5.toNat), vi b1] [] (x_Mo_valueOf l D B H0 ad _ (A 3 b0 b5.toNat) b1 hS _ _ e6) cl_Mo_260 e_x_Mo_weightOf_22 rfl rfl rfl ⟨by decide, by decide⟩ ?_
        rintro _ _ ⟨rfl, rfl⟩
        show JM g D ad w0 q5.2 25 [(0, vr 1 b0), (1, vi b1), (2, vi b2), (3, vl b3), (5, vi b5)] [vi q5.1]
        refine m_blk 26 [(0, vr 1 b0), (1, vi b1), (2, vi b2), (3, vl b3), (5, vi b5)] [vi b2, vi q5.1] C f_x_Mo_weightOf_25_1 rfl ?_
        obtain ⟨c7, h⟩ := igd h
        obtain ⟨c8, h⟩ := igd h
        refine m_icmp_ne (tgt := 39) C e_x_Mo_weightOf_26 (by decide) c7 c8 (fun c9 => ?_) (fun c9 => ?_)
        · have h := ifn c9 h
          refine m_blk 5 [(5, vi (b5 + 1)), (0, vr 1 b0), (1, vi b1), (2, vi b2), (3, vl b3)] [] C f_x_Mo_weightOf_39_2 rfl ?_
          refine m_loc [(0, vr 1 b0), (1, vi b1), (2, vi b2), (3, vl b3), (5, vi (b5 + 1))] ⟨rfl, rfl, rfl, rfl, rfl, trivial⟩ ?_
          exact ih q5.2 b0 b1 b2 b3 (b5 + 1) (h_b0) h
        · have h := ifp c9 h
          refine m_blk 31 [(0, vr 1 b0), (1, vi b1), (2, vi b2), (3, vl b3), (5, vi b5)] [vr 1 b0, vl b3] C f_x_Mo_weightOf_29_2 rfl ?_
          refine m_getrN C e_x_Mo_weightOf_31 fg_Mo_285 rfl (h_b0) rfl ?_
          refine m_blk 36 [(0, vr 1 b0), (1, vi b1), (2, vi b2), (3, vl b3), (5, vi b5)] [vi b5, vr 4 b0, vl b3] C f_x_Mo_weightOf_34_1 rfl ?_
          refine m_lald C e_x_Mo_weightOf_36 rfl (h_b0) (by decide) c4.1 c4.2 (q5.2 4 b0 b5.toNat) rfl ?_
          refine m_blk 5 [(5, vi (b5 + 1)), (3, vl (b3 + (q5.2 4 b0 b5.toNat))), (0, vr 1 b0), (1, vi b1), (2, vi b2)] [] C f_x_Mo_weightOf_37_4 rfl ?_
          refine m_loc [(0, vr 1 b0), (1, vi b1), (2, vi b2), (3, vl (b3 + (q5.2 4 b0 b5.toNat))), (5, vi (b5 + 1))] ⟨rfl, rfl, rfl, rfl, rfl, trivial⟩ ?_
          exact ih q5.2 b0 b1 b2 (b3 + (q5.2 4 b0 b5.toNat)) (b5 + 1) (h_b0) h
  show JM g D ad w0 A 0 [(0, vr 1 a0), (1, vi a1), (2, vi a2)] []
  unfold f_Mo_weightOf at h
  refine m_blk 5 [(5, vi 0), (3, vl 0), (0, vr 1 a0), (1, vi a1), (2, vi a2)] [] C f_x_Mo_weightOf_0_4 rfl ?_
  refine m_loc [(0, vr 1 a0), (1, vi a1), (2, vi a2), (3, vl 0), (5, vi 0)] ⟨rfl, rfl, rfl, rfl, rfl, trivial⟩ ?_
  exact hd_5 _ A a0 a1 a2 0 0 (h_a0) h

def f_Mo_against (A : mA) (a0 : Nat) : Option (Int × mA) := (if g32 (A 0 0 34) then (if (A 0 0 34) = 0 then (if g32 (A 1 a0 2) then (if (A 1 a0 2) = 0 then (some ((-7), A)) else (some (0, A))) else none) else (some ((-6), A))) else none)
theorem f_x_Mo_against_0_1 : mblkB b_Mo_against [(0, .aload_n 0, vi 0)] = true := by decide +kernel
theorem e_x_Mo_against_1 : decode b_Mo_against 1 = .ok (.getfield 297, 3) := by decide +kernel
theorem e_x_Mo_against_4 : decode b_Mo_against 4 = .ok (.ifCond .eq 8, 3) := by decide +kernel
theorem f_x_Mo_against_12_1 : mblkB b_Mo_against [(12, .aload_n 1, vi 0)] = true := by decide +kernel
theorem e_x_Mo_against_13 : decode b_Mo_against 13 = .ok (.getfield 272, 3) := by decide +kernel
theorem e_x_Mo_against_16 : decode b_Mo_against 16 = .ok (.ifCond .ne 8, 3) := by decide +kernel
theorem f_x_Mo_against_24_1 : mblkB b_Mo_against [(24, .iconst 0, vi 0)] = true := by decide +kernel
theorem e_x_Mo_against_25 : decode b_Mo_against 25 = .ok (.ireturn, 1) := by decide +kernel
theorem f_x_Mo_against_19_2 : mblkB b_Mo_against [(19, .bipush (-7), vi (-7)), (21, .goto 4, vi 25)] = true := by decide +kernel
theorem f_x_Mo_against_7_2 : mblkB b_Mo_against [(7, .bipush (-6), vi (-6)), (9, .goto 16, vi 25)] = true := by decide +kernel
set_option maxHeartbeats 4000000 in
set_option maxRecDepth 20000 in
theorem x_Mo_against  : ∀ (l : Launch) (D : va_G) (B : Nat) (H0 : Heap) (ad : mAd) (A : mA) (a0 : Nat) (h_a0 : a0 < 200) (hS : mStr D ad) (r9 : Int) (A9 : mA), f_Mo_against  A a0 = some (r9, A9) → mMet l D B H0 ad y_Mo_against b_Mo_against 2 (some .int) 0 0 [vr 0 0, vr 1 a0] A (fun v A' => v = some (vi r9) ∧ A' = A9) := by
  intro l D B H0 ad A a0 h_a0 hS r9 A9 h
  refine m_met (by decide) rfl (fun g w0 C Rm Y E => ?_)
  show JM g D ad w0 A 0 [(0, vr 0 0), (1, vr 1 a0)] []
  unfold f_Mo_against at h
  refine m_blk 1 [(0, vr 0 0), (1, vr 1 a0)] [vr 0 0] C f_x_Mo_against_0_1 rfl ?_
  refine m_geti C e_x_Mo_against_1 fg_Mo_297 rfl (by decide) rfl (A 0 0 34) rfl ?_
  obtain ⟨c1, h⟩ := igd h
  refine m_if_eq (tgt := 12) C e_x_Mo_against_4 (by decide) c1 (fun c2 => ?_) (fun c2 => ?_)
  · have h := ifp c2 h
    refine m_blk 13 [(0, vr 0 0), (1, vr 1 a0)] [vr 1 a0] C f_x_Mo_against_12_1 rfl ?_
    refine m_getiN C e_x_Mo_against_13 fg_Mo_272 rfl (h_a0) rfl (A 1 a0 2) rfl ?_
    obtain ⟨c3, h⟩ := igd h
    refine m_if_ne (tgt := 24) C e_x_Mo_against_16 (by decide) c3 (fun c4 => ?_) (fun c4 => ?_)
    · have h := ifn c4 h
      refine m_blk 25 [(0, vr 0 0), (1, vr 1 a0)] [vi 0] C f_x_Mo_against_24_1 rfl ?_
      exact m_iret C Rm E e_x_Mo_against_25 (fin1 h)
    · have h := ifp c4 h
      refine m_blk 25 [(0, vr 0 0), (1, vr 1 a0)] [vi (-7)] C f_x_Mo_against_19_2 rfl ?_
      exact m_iret C Rm E e_x_Mo_against_25 (fin1 h)
  · have h := ifn c2 h
    refine m_blk 25 [(0, vr 0 0), (1, vr 1 a0)] [vi (-6)] C f_x_Mo_against_7_2 rfl ?_
    exact m_iret C Rm E e_x_Mo_against_25 (fin1 h)

def f_Mo_both_6 : Nat → mA → Nat → Int → Int → Int → Int → Int → Int → Option (Int × mA)
  | 0, _, _, _, _, _, _, _, _ => none
  | n + 1, A, b0, b1, b2, b3, b4, b5, b7 => (if g32 b7 then if g32 (A 1 b0 2) then (if (A 1 b0 2) ≤ b7 then (some (b5, A)) else (if (0 ≤ b7 ∧ b7 < ((301 : Nat) : Int)) then (Option.bind (f_Mo_valueOf A (A 3 b0 b7.toNat) b1) (fun q5 => (if g32 q5.1 then if g32 b2 then (if q5.1 = b2 then (Option.bind (f_Mo_valueOf q5.2 (q5.2 3 b0 b7.toNat) b3) (fun q10 => (if g32 q10.1 then if g32 b4 then (if q10.1 = b4 then (f_Mo_both_6  n q10.2 b0 b1 b2 b3 b4 (b5 + (q10.2 4 b0 b7.toNat)) (b7 + 1)) else (f_Mo_both_6  n q10.2 b0 b1 b2 b3 b4 b5 (b7 + 1))) else none else none))) else (f_Mo_both_6  n q5.2 b0 b1 b2 b3 b4 b5 (b7 + 1))) else none else none))) else none)) else none else none)
def f_Mo_both (A : mA) (a0 : Nat) (a1 : Int) (a2 : Int) (a3 : Int) (a4 : Int) : Option (Int × mA) := (f_Mo_both_6  310 A a0 a1 a2 a3 a4 0 0)
theorem f_x_Mo_both_0_4 : mblkB b_Mo_both [(0, .lconst 0, vl 0), (1, .lstore 5, vi 0), (3, .iconst 0, vi 0), (4, .istore 7, vi 0)] = true := by decide +kernel
theorem f_x_Mo_both_6_2 : mblkB b_Mo_both [(6, .iload 7, vi 0), (8, .aload_n 0, vi 0)] = true := by decide +kernel
theorem e_x_Mo_both_9 : decode b_Mo_both 9 = .ok (.getfield 272, 3) := by decide +kernel
theorem e_x_Mo_both_12 : decode b_Mo_both 12 = .ok (.if_icmp .ge 52, 3) := by decide +kernel
theorem f_x_Mo_both_64_1 : mblkB b_Mo_both [(64, .lload 5, vi 0)] = true := by decide +kernel
theorem e_x_Mo_both_66 : decode b_Mo_both 66 = .ok (.lreturn, 1) := by decide +kernel
theorem f_x_Mo_both_15_1 : mblkB b_Mo_both [(15, .aload_n 0, vi 0)] = true := by decide +kernel
theorem e_x_Mo_both_16 : decode b_Mo_both 16 = .ok (.getfield 279, 3) := by decide +kernel
theorem f_x_Mo_both_19_1 : mblkB b_Mo_both [(19, .iload 7, vi 0)] = true := by decide +kernel
theorem e_x_Mo_both_21 : decode b_Mo_both 21 = .ok (.iaload, 1) := by decide +kernel
theorem f_x_Mo_both_22_1 : mblkB b_Mo_both [(22, .iload_n 1, vi 0)] = true := by decide +kernel
theorem e_x_Mo_both_23 : decode b_Mo_both 23 = .ok (.invokestatic 260, 3) := by decide +kernel
theorem f_x_Mo_both_26_1 : mblkB b_Mo_both [(26, .iload_n 2, vi 0)] = true := by decide +kernel
theorem e_x_Mo_both_27 : decode b_Mo_both 27 = .ok (.if_icmp .ne 31, 3) := by decide +kernel
theorem f_x_Mo_both_58_2 : mblkB b_Mo_both [(58, .iinc 7 1, vi 1), (61, .goto (-55), vi 6)] = true := by decide +kernel
theorem f_x_Mo_both_30_1 : mblkB b_Mo_both [(30, .aload_n 0, vi 0)] = true := by decide +kernel
theorem e_x_Mo_both_31 : decode b_Mo_both 31 = .ok (.getfield 279, 3) := by decide +kernel
theorem f_x_Mo_both_34_1 : mblkB b_Mo_both [(34, .iload 7, vi 0)] = true := by decide +kernel
theorem e_x_Mo_both_36 : decode b_Mo_both 36 = .ok (.iaload, 1) := by decide +kernel
theorem f_x_Mo_both_37_1 : mblkB b_Mo_both [(37, .iload_n 3, vi 0)] = true := by decide +kernel
theorem e_x_Mo_both_38 : decode b_Mo_both 38 = .ok (.invokestatic 260, 3) := by decide +kernel
theorem f_x_Mo_both_41_1 : mblkB b_Mo_both [(41, .iload 4, vi 0)] = true := by decide +kernel
theorem e_x_Mo_both_43 : decode b_Mo_both 43 = .ok (.if_icmp .ne 15, 3) := by decide +kernel
theorem f_x_Mo_both_46_2 : mblkB b_Mo_both [(46, .lload 5, vi 0), (48, .aload_n 0, vi 0)] = true := by decide +kernel
theorem e_x_Mo_both_49 : decode b_Mo_both 49 = .ok (.getfield 285, 3) := by decide +kernel
theorem f_x_Mo_both_52_1 : mblkB b_Mo_both [(52, .iload 7, vi 0)] = true := by decide +kernel
theorem e_x_Mo_both_54 : decode b_Mo_both 54 = .ok (.laload, 1) := by decide +kernel
theorem f_x_Mo_both_55_4 : mblkB b_Mo_both [(55, .ladd, vi 0), (56, .lstore 5, vi 0), (58, .iinc 7 1, vi 1), (61, .goto (-55), vi 6)] = true := by decide +kernel
set_option maxHeartbeats 4000000 in
set_option maxRecDepth 20000 in
theorem x_Mo_both  : ∀ (l : Launch) (D : va_G) (B : Nat) (H0 : Heap) (ad : mAd) (A : mA) (a0 : Nat) (a1 : Int) (a2 : Int) (a3 : Int) (a4 : Int) (h_a0 : a0 < 200) (hS : mStr D ad) (r9 : Int) (A9 : mA), f_Mo_both  A a0 a1 a2 a3 a4 = some (r9, A9) → mMet l D B H0 ad y_Mo_both b_Mo_both 8 (some .long) 2 43 [vr 1 a0, vi a1, vi a2, vi a3, vi a4] A (fun v A' => v = some (vl r9) ∧ A' = A9) := by
  intro l D B H0 ad A a0 a1 a2 a3 a4 h_a0 hS r9 A9 h
  refine m_met (by decide) rfl (fun g w0 C Rm Y E => ?_)
  have hd_6 : ∀ (n : Nat) (A : mA) (b0 : Nat) (b1 : Int) (b2 : Int) (b3 : Int) (b4 : Int) (b5 : Int) (b7 : Int) , b0 < 200 → f_Mo_both_6  n A b0 b1 b2 b3 b4 b5 b7 = some (r9, A9) → JM g D ad w0 A 6 [(0, vr 1 b0), (1, vi b1), (2, vi b2), (3, vi b3), (4, vi b4), (5, vl b5), (7, vi b7)] [] := by
    intro n
    induction n with
    | zero => intro A b0 b1 b2 b3 b4 b5 b7 h_b0 h; cases h
    | succ n ih =>
      intro A b0 b1 b2 b3 b4 b5 b7 h_b0 h
      unfold f_Mo_both_6 at h
      refine m_blk 9 [(0, vr 1 b0), (1, vi b1), (2, vi b2), (3, vi b3), (4, vi b4), (5, vl b5), (7, vi b7)] [vr 1 b0, vi b7] C f_x_Mo_both_6_2 rfl ?_
      refine m_getiN C e_x_Mo_both_9 fg_Mo_272 rfl (h_b0) rfl (A 1 b0 2) rfl ?_
      obtain ⟨c1, h⟩ := igd h
      obtain ⟨c2, h⟩ := igd h
      refine m_icmp_ge (tgt := 64) C e_x_Mo_both_12 (by decide) c1 c2 (fun c3 => ?_) (fun c3 => ?_)
      · have h := ifp c3 h
        refine m_blk 66 [(0, vr 1 b0), (1, vi b1), (2, vi b2), (3, vi b3), (4, vi b4), (5, vl b5), (7, vi b7)] [vl b5] C f_x_Mo_both_64_1 rfl ?_
        exact m_lret C Rm E e_x_Mo_both_66 (finL h)
      · have h := ifn c3 h
        refine m_blk 16 [(0, vr 1 b0), (1, vi b1), (2, vi b2), (3, vi b3), (4, vi b4), (5, vl b5), (7, vi b7)] [vr 1 b0] C f_x_Mo_both_15_1 rfl ?_
        refine m_getrN C e_x_Mo_both_16 fg_Mo_279 rfl (h_b0) rfl ?_
        refine m_blk 21 [(0, vr 1 b0), (1, vi b1), (2, vi b2), (3, vi b3), (4, vi b4), (5, vl b5), (7, vi b7)] [vi b7, vr 3 b0] C f_x_Mo_both_19_1 rfl ?_
        obtain ⟨c4, h⟩ := igd h
        refine m_iald C e_x_Mo_both_21 rfl (h_b0) (by decide) c4.1 c4.2 (A 3 b0 b7.toNat) rfl ?_
        refine m_blk 23 [(0, vr 1 b0), (1, vi b1), (2, vi b2), (3, vi b3), (4, vi b4), (5, vl b5), (7, vi b7)] [vi b1, vi (A 3 b0 b7.toNat)] C f_x_Mo_both_22_1 rfl ?_
        obtain ⟨q5, e6, h⟩ := obd h
        refine m_callS C Rm Y [vi (A 3 b0 b7.toNat), vi b1] [] (x_Mo_valueOf l D B H0 ad _ (A 3 b0 b7.toNat) b1 hS _ _ e6) cl_Mo_260 e_x_Mo_both_23 rfl rfl rfl ⟨by decide, by decide⟩ ?_
        rintro _ _ ⟨rfl, rfl⟩
        show JM g D ad w0 q5.2 26 [(0, vr 1 b0), (1, vi b1), (2, vi b2), (3, vi b3), (4, vi b4), (5, vl b5), (7, vi b7)] [vi q5.1]
        refine m_blk 27 [(0, vr 1 b0), (1, vi b1), (2, vi b2), (3, vi b3), (4, vi b4), (5, vl b5), (7, vi b7)] [vi b2, vi q5.1] C f_x_Mo_both_26_1 rfl ?_
        obtain ⟨c7, h⟩ := igd h
        obtain ⟨c8, h⟩ := igd h
        refine m_icmp_ne (tgt := 58) C e_x_Mo_both_27 (by decide) c7 c8 (fun c9 => ?_) (fun c9 => ?_)
        · have h := ifn c9 h
          refine m_blk 6 [(7, vi (b7 + 1)), (0, vr 1 b0), (1, vi b1), (2, vi b2), (3, vi b3), (4, vi b4), (5, vl b5)] [] C f_x_Mo_both_58_2 rfl ?_
          refine m_loc [(0, vr 1 b0), (1, vi b1), (2, vi b2), (3, vi b3), (4, vi b4), (5, vl b5), (7, vi (b7 + 1))] ⟨rfl, rfl, rfl, rfl, rfl, rfl, rfl, trivial⟩ ?_
          exact ih q5.2 b0 b1 b2 b3 b4 b5 (b7 + 1) (h_b0) h
        · have h := ifp c9 h
          refine m_blk 31 [(0, vr 1 b0), (1, vi b1), (2, vi b2), (3, vi b3), (4, vi b4), (5, vl b5), (7, vi b7)] [vr 1 b0] C f_x_Mo_both_30_1 rfl ?_
          refine m_getrN C e_x_Mo_both_31 fg_Mo_279 rfl (h_b0) rfl ?_
          refine m_blk 36 [(0, vr 1 b0), (1, vi b1), (2, vi b2), (3, vi b3), (4, vi b4), (5, vl b5), (7, vi b7)] [vi b7, vr 3 b0] C f_x_Mo_both_34_1 rfl ?_
          refine m_iald C e_x_Mo_both_36 rfl (h_b0) (by decide) c4.1 c4.2 (q5.2 3 b0 b7.toNat) rfl ?_
          refine m_blk 38 [(0, vr 1 b0), (1, vi b1), (2, vi b2), (3, vi b3), (4, vi b4), (5, vl b5), (7, vi b7)] [vi b3, vi (q5.2 3 b0 b7.toNat)] C f_x_Mo_both_37_1 rfl ?_
          obtain ⟨q10, e11, h⟩ := obd h
          refine m_callS C Rm Y [vi (q5.2 3 b0 b7.toNat), vi b3] [] (x_Mo_valueOf l D B H0 ad _ (q5.2 3 b0 b7.toNat) b3 hS _ _ e11) cl_Mo_260 e_x_Mo_both_38 rfl rfl rfl ⟨by decide, by decide⟩ ?_
          rintro _ _ ⟨rfl, rfl⟩
          show JM g D ad w0 q10.2 41 [(0, vr 1 b0), (1, vi b1), (2, vi b2), (3, vi b3), (4, vi b4), (5, vl b5), (7, vi b7)] [vi q10.1]
          refine m_blk 43 [(0, vr 1 b0), (1, vi b1), (2, vi b2), (3, vi b3), (4, vi b4), (5, vl b5), (7, vi b7)] [vi b4, vi q10.1] C f_x_Mo_both_41_1 rfl ?_
          obtain ⟨c12, h⟩ := igd h
          obtain ⟨c13, h⟩ := igd h
          refine m_icmp_ne (tgt := 58) C e_x_Mo_both_43 (by decide) c12 c13 (fun c14 => ?_) (fun c14 => ?_)
          · have h := ifn c14 h
            refine m_blk 6 [(7, vi (b7 + 1)), (0, vr 1 b0), (1, vi b1), (2, vi b2), (3, vi b3), (4, vi b4), (5, vl b5)] [] C f_x_Mo_both_58_2 rfl ?_
            refine m_loc [(0, vr 1 b0), (1, vi b1), (2, vi b2), (3, vi b3), (4, vi b4), (5, vl b5), (7, vi (b7 + 1))] ⟨rfl, rfl, rfl, rfl, rfl, rfl, rfl, trivial⟩ ?_
            exact ih q10.2 b0 b1 b2 b3 b4 b5 (b7 + 1) (h_b0) h
          · have h := ifp c14 h
            refine m_blk 49 [(0, vr 1 b0), (1, vi b1), (2, vi b2), (3, vi b3), (4, vi b4), (5, vl b5), (7, vi b7)] [vr 1 b0, vl b5] C f_x_Mo_both_46_2 rfl ?_
            refine m_getrN C e_x_Mo_both_49 fg_Mo_285 rfl (h_b0) rfl ?_
            refine m_blk 54 [(0, vr 1 b0), (1, vi b1), (2, vi b2), (3, vi b3), (4, vi b4), (5, vl b5), (7, vi b7)] [vi b7, vr 4 b0, vl b5] C f_x_Mo_both_52_1 rfl ?_
            refine m_lald C e_x_Mo_both_54 rfl (h_b0) (by decide) c4.1 c4.2 (q10.2 4 b0 b7.toNat) rfl ?_
            refine m_blk 6 [(7, vi (b7 + 1)), (5, vl (b5 + (q10.2 4 b0 b7.toNat))), (0, vr 1 b0), (1, vi b1), (2, vi b2), (3, vi b3), (4, vi b4)] [] C f_x_Mo_both_55_4 rfl ?_
            refine m_loc [(0, vr 1 b0), (1, vi b1), (2, vi b2), (3, vi b3), (4, vi b4), (5, vl (b5 + (q10.2 4 b0 b7.toNat))), (7, vi (b7 + 1))] ⟨rfl, rfl, rfl, rfl, rfl, rfl, rfl, trivial⟩ ?_
            exact ih q10.2 b0 b1 b2 b3 b4 (b5 + (q10.2 4 b0 b7.toNat)) (b7 + 1) (h_b0) h
  show JM g D ad w0 A 0 [(0, vr 1 a0), (1, vi a1), (2, vi a2), (3, vi a3), (4, vi a4)] []
  unfold f_Mo_both at h
  refine m_blk 6 [(7, vi 0), (5, vl 0), (0, vr 1 a0), (1, vi a1), (2, vi a2), (3, vi a3), (4, vi a4)] [] C f_x_Mo_both_0_4 rfl ?_
  refine m_loc [(0, vr 1 a0), (1, vi a1), (2, vi a2), (3, vi a3), (4, vi a4), (5, vl 0), (7, vi 0)] ⟨rfl, rfl, rfl, rfl, rfl, rfl, rfl, trivial⟩ ?_
  exact hd_6 _ A a0 a1 a2 a3 a4 0 0 (h_a0) h

def f_Mo_areSame (A : mA) (a0 : Int) (a1 : Int) (a2 : Int) (a3 : Int) : Option (Int × mA) := (Option.bind (f_Mo_lowest A a0 a1 0) (fun q1 => (Option.bind (f_Mo_lowest q1.2 a2 a3 0) (fun q3 => (if g64 q1.1 then (if g64 q3.1 then (if (lc q1.1 q3.1) = 0 then (Option.bind (f_Mo_lowest q3.2 a0 a1 1) (fun q9 => (Option.bind (f_Mo_lowest q9.2 a2 a3 1) (fun q11 => (if g64 q9.1 then (if g64 q11.1 then (if (lc q9.1 q11.1) = 0 then (some (1, q11.2)) else (some (0, q11.2))) else none) else none))))) else (some (0, q3.2))) else none) else none)))))
theorem f_x_Mo_areSame_0_3 : mblkB b_Mo_areSame [(0, .lload_n 0, vi 0), (1, .lload_n 2, vi 0), (2, .iconst 0, vi 0)] = true := by decide +kernel
theorem e_x_Mo_areSame_3 : decode b_Mo_areSame 3 = .ok (.invokestatic 376, 3) := by decide +kernel
theorem f_x_Mo_areSame_6_3 : mblkB b_Mo_areSame [(6, .lload 4, vi 0), (8, .lload 6, vi 0), (10, .iconst 0, vi 0)] = true := by decide +kernel
theorem e_x_Mo_areSame_11 : decode b_Mo_areSame 11 = .ok (.invokestatic 376, 3) := by decide +kernel
theorem e_x_Mo_areSame_14 : decode b_Mo_areSame 14 = .ok (.lcmp, 1) := by decide +kernel
theorem e_x_Mo_areSame_15 : decode b_Mo_areSame 15 = .ok (.ifCond .ne 25, 3) := by decide +kernel
theorem f_x_Mo_areSame_40_1 : mblkB b_Mo_areSame [(40, .iconst 0, vi 0)] = true := by decide +kernel
theorem e_x_Mo_areSame_41 : decode b_Mo_areSame 41 = .ok (.ireturn, 1) := by decide +kernel
theorem f_x_Mo_areSame_18_3 : mblkB b_Mo_areSame [(18, .lload_n 0, vi 0), (19, .lload_n 2, vi 0), (20, .iconst 1, vi 1)] = true := by decide +kernel
theorem e_x_Mo_areSame_21 : decode b_Mo_areSame 21 = .ok (.invokestatic 376, 3) := by decide +kernel
theorem f_x_Mo_areSame_24_3 : mblkB b_Mo_areSame [(24, .lload 4, vi 0), (26, .lload 6, vi 0), (28, .iconst 1, vi 1)] = true := by decide +kernel
theorem e_x_Mo_areSame_29 : decode b_Mo_areSame 29 = .ok (.invokestatic 376, 3) := by decide +kernel
theorem e_x_Mo_areSame_32 : decode b_Mo_areSame 32 = .ok (.lcmp, 1) := by decide +kernel
theorem e_x_Mo_areSame_33 : decode b_Mo_areSame 33 = .ok (.ifCond .ne 7, 3) := by decide +kernel
theorem f_x_Mo_areSame_36_2 : mblkB b_Mo_areSame [(36, .iconst 1, vi 1), (37, .goto 4, vi 41)] = true := by decide +kernel
set_option maxHeartbeats 4000000 in
set_option maxRecDepth 20000 in
theorem x_Mo_areSame  : ∀ (l : Launch) (D : va_G) (B : Nat) (H0 : Heap) (ad : mAd) (A : mA) (a0 : Int) (a1 : Int) (a2 : Int) (a3 : Int) (hS : mStr D ad) (r9 : Int) (A9 : mA), f_Mo_areSame  A a0 a1 a2 a3 = some (r9, A9) → mMet l D B H0 ad y_Mo_areSame b_Mo_areSame 8 (some .boolean) 1 30 [vl a0, vl a1, vl a2, vl a3] A (fun v A' => v = some (vi r9) ∧ A' = A9) := by
  intro l D B H0 ad A a0 a1 a2 a3  hS r9 A9 h
  refine m_met (by decide) rfl (fun g w0 C Rm Y E => ?_)
  show JM g D ad w0 A 0 [(0, vl a0), (2, vl a1), (4, vl a2), (6, vl a3)] []
  unfold f_Mo_areSame at h
  refine m_blk 3 [(0, vl a0), (2, vl a1), (4, vl a2), (6, vl a3)] [vi 0, vl a1, vl a0] C f_x_Mo_areSame_0_3 rfl ?_
  obtain ⟨q1, e2, h⟩ := obd h
  refine m_callS C Rm Y [vl a0, vl a1, vi 0] [] (x_Mo_lowest l D B H0 ad _ a0 a1 0 hS _ _ e2) cl_Mo_376 e_x_Mo_areSame_3 rfl rfl rfl ⟨by decide, by decide⟩ ?_
  rintro _ _ ⟨rfl, rfl⟩
  show JM g D ad w0 q1.2 6 [(0, vl a0), (2, vl a1), (4, vl a2), (6, vl a3)] [vl q1.1]
  refine m_blk 11 [(0, vl a0), (2, vl a1), (4, vl a2), (6, vl a3)] [vi 0, vl a3, vl a2, vl q1.1] C f_x_Mo_areSame_6_3 rfl ?_
  obtain ⟨q3, e4, h⟩ := obd h
  refine m_callS C Rm Y [vl a2, vl a3, vi 0] [vl q1.1] (x_Mo_lowest l D B H0 ad _ a2 a3 0 hS _ _ e4) cl_Mo_376 e_x_Mo_areSame_11 rfl rfl rfl ⟨by decide, by decide⟩ ?_
  rintro _ _ ⟨rfl, rfl⟩
  show JM g D ad w0 q3.2 14 [(0, vl a0), (2, vl a1), (4, vl a2), (6, vl a3)] [vl q3.1, vl q1.1]
  obtain ⟨c5, h⟩ := igd h
  obtain ⟨c6, h⟩ := igd h
  refine m_lcmp C e_x_Mo_areSame_14 c5 c6 (fun z7 hz7 => ?_)
  obtain rfl : z7 = lc q1.1 q3.1 := lc_of hz7
  refine m_if_ne (tgt := 40) C e_x_Mo_areSame_15 (by decide) lc_r (fun c8 => ?_) (fun c8 => ?_)
  · have h := ifn c8 h
    refine m_blk 41 [(0, vl a0), (2, vl a1), (4, vl a2), (6, vl a3)] [vi 0] C f_x_Mo_areSame_40_1 rfl ?_
    exact m_zret C Rm E (Or.inl rfl) e_x_Mo_areSame_41 (fin1 h)
  · have h := ifp c8 h
    refine m_blk 21 [(0, vl a0), (2, vl a1), (4, vl a2), (6, vl a3)] [vi 1, vl a1, vl a0] C f_x_Mo_areSame_18_3 rfl ?_
    obtain ⟨q9, e10, h⟩ := obd h
    refine m_callS C Rm Y [vl a0, vl a1, vi 1] [] (x_Mo_lowest l D B H0 ad _ a0 a1 1 hS _ _ e10) cl_Mo_376 e_x_Mo_areSame_21 rfl rfl rfl ⟨by decide, by decide⟩ ?_
    rintro _ _ ⟨rfl, rfl⟩
    show JM g D ad w0 q9.2 24 [(0, vl a0), (2, vl a1), (4, vl a2), (6, vl a3)] [vl q9.1]
    refine m_blk 29 [(0, vl a0), (2, vl a1), (4, vl a2), (6, vl a3)] [vi 1, vl a3, vl a2, vl q9.1] C f_x_Mo_areSame_24_3 rfl ?_
    obtain ⟨q11, e12, h⟩ := obd h
    refine m_callS C Rm Y [vl a2, vl a3, vi 1] [vl q9.1] (x_Mo_lowest l D B H0 ad _ a2 a3 1 hS _ _ e12) cl_Mo_376 e_x_Mo_areSame_29 rfl rfl rfl ⟨by decide, by decide⟩ ?_
    rintro _ _ ⟨rfl, rfl⟩
    show JM g D ad w0 q11.2 32 [(0, vl a0), (2, vl a1), (4, vl a2), (6, vl a3)] [vl q11.1, vl q9.1]
    obtain ⟨c13, h⟩ := igd h
    obtain ⟨c14, h⟩ := igd h
    refine m_lcmp C e_x_Mo_areSame_32 c13 c14 (fun z15 hz15 => ?_)
    obtain rfl : z15 = lc q9.1 q11.1 := lc_of hz15
    refine m_if_ne (tgt := 40) C e_x_Mo_areSame_33 (by decide) lc_r (fun c16 => ?_) (fun c16 => ?_)
    · have h := ifn c16 h
      refine m_blk 41 [(0, vl a0), (2, vl a1), (4, vl a2), (6, vl a3)] [vi 0] C f_x_Mo_areSame_40_1 rfl ?_
      exact m_zret C Rm E (Or.inl rfl) e_x_Mo_areSame_41 (fin1 h)
    · have h := ifp c16 h
      refine m_blk 41 [(0, vl a0), (2, vl a1), (4, vl a2), (6, vl a3)] [vi 1] C f_x_Mo_areSame_36_2 rfl ?_
      exact m_zret C Rm E (Or.inr rfl) e_x_Mo_areSame_41 (fin1 h)

def f_Mo_hundredths (A : mA) (a0 : Nat) (a1 : Int) (a2 : Int) : Option (Int × mA) := (Option.bind (f_Mo_weightOf A a0 a1 a2) (fun q1 => (Option.bind (f_Odds_all q1.2 a0) (fun q3 => (if g64 (100 * q1.1) then (if g64 q3.1 then (if q3.1 ≠ 0 then (some ((Int.tdiv (100 * q1.1) q3.1), q3.2)) else none) else none) else none)))))
theorem e_x_Mo_hundredths_0 : decode b_Mo_hundredths 0 = .ok (.ldc2_w 412, 3) := by decide +kernel
theorem f_x_Mo_hundredths_3_3 : mblkB b_Mo_hundredths [(3, .aload_n 0, vi 0), (4, .iload_n 1, vi 0), (5, .iload_n 2, vi 0)] = true := by decide +kernel
theorem e_x_Mo_hundredths_6 : decode b_Mo_hundredths 6 = .ok (.invokestatic 384, 3) := by decide +kernel
theorem f_x_Mo_hundredths_9_2 : mblkB b_Mo_hundredths [(9, .lmul, vi 0), (10, .aload_n 0, vi 0)] = true := by decide +kernel
theorem e_x_Mo_hundredths_11 : decode b_Mo_hundredths 11 = .ok (.invokevirtual 372, 3) := by decide +kernel
theorem e_x_Mo_hundredths_14 : decode b_Mo_hundredths 14 = .ok (.ldiv, 1) := by decide +kernel
theorem f_x_Mo_hundredths_15_1 : mblkB b_Mo_hundredths [(15, .l2i, vi 0)] = true := by decide +kernel
theorem e_x_Mo_hundredths_16 : decode b_Mo_hundredths 16 = .ok (.ireturn, 1) := by decide +kernel
set_option maxHeartbeats 4000000 in
set_option maxRecDepth 20000 in
theorem x_Mo_hundredths  : ∀ (l : Launch) (D : va_G) (B : Nat) (H0 : Heap) (ad : mAd) (A : mA) (a0 : Nat) (a1 : Int) (a2 : Int) (h_a0 : a0 < 200) (hS : mStr D ad) (r9 : Int) (A9 : mA), f_Mo_hundredths  A a0 a1 a2 = some (r9, A9) → mMet l D B H0 ad y_Mo_hundredths b_Mo_hundredths 3 (some .int) 3 68 [vr 1 a0, vi a1, vi a2] A (fun v A' => v = some (vi r9) ∧ A' = A9) := by
  intro l D B H0 ad A a0 a1 a2 h_a0 hS r9 A9 h
  refine m_met (by decide) rfl (fun g w0 C Rm Y E => ?_)
  show JM g D ad w0 A 0 [(0, vr 1 a0), (1, vi a1), (2, vi a2)] []
  unfold f_Mo_hundredths at h
  refine m_ldc2 C 100 e_x_Mo_hundredths_0 ld_Mo_412 (by decide) ?_
  refine m_blk 6 [(0, vr 1 a0), (1, vi a1), (2, vi a2)] [vi a2, vi a1, vr 1 a0, vl 100] C f_x_Mo_hundredths_3_3 rfl ?_
  obtain ⟨q1, e2, h⟩ := obd h
  refine m_callS C Rm Y [vr 1 a0, vi a1, vi a2] [vl 100] (x_Mo_weightOf l D B H0 ad _ a0 a1 a2 (h_a0) hS _ _ e2) cl_Mo_384 e_x_Mo_hundredths_6 rfl rfl rfl ⟨by decide, by decide⟩ ?_
  rintro _ _ ⟨rfl, rfl⟩
  show JM g D ad w0 q1.2 9 [(0, vr 1 a0), (1, vi a1), (2, vi a2)] [vl q1.1, vl 100]
  refine m_blk 11 [(0, vr 1 a0), (1, vi a1), (2, vi a2)] [vr 1 a0, vl (100 * q1.1)] C f_x_Mo_hundredths_9_2 rfl ?_
  obtain ⟨q3, e4, h⟩ := obd h
  refine m_callV C Rm Y [] [vl (100 * q1.1)] (x_Odds_all l D B H0 ad _ a0 (h_a0) hS _ _ e4) cl_Mo_372 rfl (h_a0) rfl rfl e_x_Mo_hundredths_11 rfl rfl rfl ⟨by decide, by decide⟩ ?_
  rintro _ _ ⟨rfl, rfl⟩
  show JM g D ad w0 q3.2 14 [(0, vr 1 a0), (1, vi a1), (2, vi a2)] [vl q3.1, vl (100 * q1.1)]
  obtain ⟨c5, h⟩ := igd h
  obtain ⟨c6, h⟩ := igd h
  obtain ⟨c7, h⟩ := igd h
  refine m_ldiv C e_x_Mo_hundredths_14 c5 c6 c7 ?_
  refine m_blk 16 [(0, vr 1 a0), (1, vi a1), (2, vi a2)] [vi (Int.tdiv (100 * q1.1) q3.1)] C f_x_Mo_hundredths_15_1 rfl ?_
  exact m_iret C Rm E e_x_Mo_hundredths_16 (fin1 h)

def f_Mo_otherwise_3 : Nat → mA → Int → Nat → Int → Int → Option (Int × mA)
  | 0, _, _, _, _, _ => none
  | n + 1, A, b1, b2, b3, b4 => (if (0 ≤ b1 ∧ b1 < ((4 : Nat) : Int)) then (if g32 b4 then if g32 (A 12 0 b1.toNat) then (if (A 12 0 b1.toNat) ≤ b4 then (some ((-1), A)) else (Option.bind (f_Mo_hundredths A b2 b3 b4) (fun q5 => (if (0 ≤ b4 ∧ b4 < ((40 : Nat) : Int)) then (if g32 q5.1 then if g32 (q5.2 49 b1.toNat b4.toNat) then (if q5.1 = (q5.2 49 b1.toNat b4.toNat) then (f_Mo_otherwise_3  n q5.2 b1 b2 b3 (b4 + 1)) else (some (b4, q5.2))) else none else none) else none)))) else none else none) else none)
def f_Mo_otherwise (A : mA) (a0 : Int) (a1 : Nat) (a2 : Int) : Option (Int × mA) := (f_Mo_otherwise_3  50 A a0 a1 a2 0)
theorem f_x_Mo_otherwise_0_2 : mblkB b_Mo_otherwise [(0, .iconst 0, vi 0), (1, .istore 4, vi 0)] = true := by decide +kernel
theorem f_x_Mo_otherwise_3_2 : mblkB b_Mo_otherwise [(3, .iload 4, vi 0), (5, .aload_n 0, vi 0)] = true := by decide +kernel
theorem e_x_Mo_otherwise_6 : decode b_Mo_otherwise 6 = .ok (.getfield 95, 3) := by decide +kernel
theorem f_x_Mo_otherwise_9_1 : mblkB b_Mo_otherwise [(9, .iload_n 1, vi 0)] = true := by decide +kernel
theorem e_x_Mo_otherwise_10 : decode b_Mo_otherwise 10 = .ok (.iaload, 1) := by decide +kernel
theorem e_x_Mo_otherwise_11 : decode b_Mo_otherwise 11 = .ok (.if_icmp .ge 31, 3) := by decide +kernel
theorem f_x_Mo_otherwise_42_1 : mblkB b_Mo_otherwise [(42, .iconst (-1), vi (-1))] = true := by decide +kernel
theorem e_x_Mo_otherwise_43 : decode b_Mo_otherwise 43 = .ok (.ireturn, 1) := by decide +kernel
theorem f_x_Mo_otherwise_14_3 : mblkB b_Mo_otherwise [(14, .aload_n 2, vi 0), (15, .iload_n 3, vi 0), (16, .iload 4, vi 0)] = true := by decide +kernel
theorem e_x_Mo_otherwise_18 : decode b_Mo_otherwise 18 = .ok (.invokestatic 414, 3) := by decide +kernel
theorem f_x_Mo_otherwise_21_1 : mblkB b_Mo_otherwise [(21, .aload_n 0, vi 0)] = true := by decide +kernel
theorem e_x_Mo_otherwise_22 : decode b_Mo_otherwise 22 = .ok (.getfield 98, 3) := by decide +kernel
theorem f_x_Mo_otherwise_25_1 : mblkB b_Mo_otherwise [(25, .iload_n 1, vi 0)] = true := by decide +kernel
theorem e_x_Mo_otherwise_26 : decode b_Mo_otherwise 26 = .ok (.aaload, 1) := by decide +kernel
theorem f_x_Mo_otherwise_27_1 : mblkB b_Mo_otherwise [(27, .iload 4, vi 0)] = true := by decide +kernel
theorem e_x_Mo_otherwise_29 : decode b_Mo_otherwise 29 = .ok (.iaload, 1) := by decide +kernel
theorem e_x_Mo_otherwise_30 : decode b_Mo_otherwise 30 = .ok (.if_icmp .eq 6, 3) := by decide +kernel
theorem f_x_Mo_otherwise_36_2 : mblkB b_Mo_otherwise [(36, .iinc 4 1, vi 1), (39, .goto (-36), vi 3)] = true := by decide +kernel
theorem f_x_Mo_otherwise_33_1 : mblkB b_Mo_otherwise [(33, .iload 4, vi 0)] = true := by decide +kernel
theorem e_x_Mo_otherwise_35 : decode b_Mo_otherwise 35 = .ok (.ireturn, 1) := by decide +kernel
set_option maxHeartbeats 4000000 in
set_option maxRecDepth 20000 in
theorem x_Mo_otherwise  : ∀ (l : Launch) (D : va_G) (B : Nat) (H0 : Heap) (ad : mAd) (A : mA) (a0 : Int) (a1 : Nat) (a2 : Int) (h_a1 : a1 < 200) (hS : mStr D ad) (r9 : Int) (A9 : mA), f_Mo_otherwise  A a0 a1 a2 = some (r9, A9) → mMet l D B H0 ad y_Mo_otherwise b_Mo_otherwise 5 (some .int) 4 90 [vr 0 0, vi a0, vr 1 a1, vi a2] A (fun v A' => v = some (vi r9) ∧ A' = A9) := by
  intro l D B H0 ad A a0 a1 a2 h_a1 hS r9 A9 h
  refine m_met (by decide) rfl (fun g w0 C Rm Y E => ?_)
  have hd_3 : ∀ (n : Nat) (A : mA) (b1 : Int) (b2 : Nat) (b3 : Int) (b4 : Int) , b2 < 200 → f_Mo_otherwise_3  n A b1 b2 b3 b4 = some (r9, A9) → JM g D ad w0 A 3 [(0, vr 0 0), (1, vi b1), (2, vr 1 b2), (3, vi b3), (4, vi b4)] [] := by
    intro n
    induction n with
    | zero => intro A b1 b2 b3 b4 h_b2 h; cases h
    | succ n ih =>
      intro A b1 b2 b3 b4 h_b2 h
      unfold f_Mo_otherwise_3 at h
      refine m_blk 6 [(0, vr 0 0), (1, vi b1), (2, vr 1 b2), (3, vi b3), (4, vi b4)] [vr 0 0, vi b4] C f_x_Mo_otherwise_3_2 rfl ?_
      refine m_getr C e_x_Mo_otherwise_6 fg_Mo_95 rfl (by decide) rfl ?_
      refine m_blk 10 [(0, vr 0 0), (1, vi b1), (2, vr 1 b2), (3, vi b3), (4, vi b4)] [vi b1, vr 12 0, vi b4] C f_x_Mo_otherwise_9_1 rfl ?_
      obtain ⟨c1, h⟩ := igd h
      refine m_iald C e_x_Mo_otherwise_10 rfl (by decide) (by decide) c1.1 c1.2 (A 12 0 b1.toNat) rfl ?_
      obtain ⟨c2, h⟩ := igd h
      obtain ⟨c3, h⟩ := igd h
      refine m_icmp_ge (tgt := 42) C e_x_Mo_otherwise_11 (by decide) c2 c3 (fun c4 => ?_) (fun c4 => ?_)
      · have h := ifp c4 h
        refine m_blk 43 [(0, vr 0 0), (1, vi b1), (2, vr 1 b2), (3, vi b3), (4, vi b4)] [vi (-1)] C f_x_Mo_otherwise_42_1 rfl ?_
        exact m_iret C Rm E e_x_Mo_otherwise_43 (fin1 h)
      · have h := ifn c4 h
        refine m_blk 18 [(0, vr 0 0), (1, vi b1), (2, vr 1 b2), (3, vi b3), (4, vi b4)] [vi b4, vi b3, vr 1 b2] C f_x_Mo_otherwise_14_3 rfl ?_
        obtain ⟨q5, e6, h⟩ := obd h
        refine m_callS C Rm Y [vr 1 b2, vi b3, vi b4] [] (x_Mo_hundredths l D B H0 ad _ b2 b3 b4 (h_b2) hS _ _ e6) cl_Mo_414 e_x_Mo_otherwise_18 rfl rfl rfl ⟨by decide, by decide⟩ ?_
        rintro _ _ ⟨rfl, rfl⟩
        show JM g D ad w0 q5.2 21 [(0, vr 0 0), (1, vi b1), (2, vr 1 b2), (3, vi b3), (4, vi b4)] [vi q5.1]
        refine m_blk 22 [(0, vr 0 0), (1, vi b1), (2, vr 1 b2), (3, vi b3), (4, vi b4)] [vr 0 0, vi q5.1] C f_x_Mo_otherwise_21_1 rfl ?_
        refine m_getr C e_x_Mo_otherwise_22 fg_Mo_98 rfl (by decide) rfl ?_
        refine m_blk 26 [(0, vr 0 0), (1, vi b1), (2, vr 1 b2), (3, vi b3), (4, vi b4)] [vi b1, vr 29 0, vi q5.1] C f_x_Mo_otherwise_25_1 rfl ?_
        have k7 : b1.toNat < 4 := by omega
        refine m_aald C b1.toNat e_x_Mo_otherwise_26 rfl rfl rfl (by decide) (by decide) c1.1 c1.2 (mz _ _) ?_
        refine m_blk 29 [(0, vr 0 0), (1, vi b1), (2, vr 1 b2), (3, vi b3), (4, vi b4)] [vi b4, vr 49 b1.toNat, vi q5.1] C f_x_Mo_otherwise_27_1 rfl ?_
        obtain ⟨c8, h⟩ := igd h
        refine m_iald C e_x_Mo_otherwise_29 rfl (k7) (by decide) c8.1 c8.2 (q5.2 49 b1.toNat b4.toNat) rfl ?_
        obtain ⟨c9, h⟩ := igd h
        obtain ⟨c10, h⟩ := igd h
        refine m_icmp_eq (tgt := 36) C e_x_Mo_otherwise_30 (by decide) c9 c10 (fun c11 => ?_) (fun c11 => ?_)
        · have h := ifp c11 h
          refine m_blk 3 [(4, vi (b4 + 1)), (0, vr 0 0), (1, vi b1), (2, vr 1 b2), (3, vi b3)] [] C f_x_Mo_otherwise_36_2 rfl ?_
          refine m_loc [(0, vr 0 0), (1, vi b1), (2, vr 1 b2), (3, vi b3), (4, vi (b4 + 1))] ⟨rfl, rfl, rfl, rfl, rfl, trivial⟩ ?_
          exact ih q5.2 b1 b2 b3 (b4 + 1) (h_b2) h
        · have h := ifn c11 h
          refine m_blk 35 [(0, vr 0 0), (1, vi b1), (2, vr 1 b2), (3, vi b3), (4, vi b4)] [vi b4] C f_x_Mo_otherwise_33_1 rfl ?_
          exact m_iret C Rm E e_x_Mo_otherwise_35 (fin1 h)
  show JM g D ad w0 A 0 [(0, vr 0 0), (1, vi a0), (2, vr 1 a1), (3, vi a2)] []
  unfold f_Mo_otherwise at h
  refine m_blk 3 [(4, vi 0), (0, vr 0 0), (1, vi a0), (2, vr 1 a1), (3, vi a2)] [] C f_x_Mo_otherwise_0_2 rfl ?_
  refine m_loc [(0, vr 0 0), (1, vi a0), (2, vr 1 a1), (3, vi a2), (4, vi 0)] ⟨rfl, rfl, rfl, rfl, rfl, trivial⟩ ?_
  exact hd_3 _ A a0 a1 a2 0 (h_a1) h

def f_Mo_isSo (A : mA) (a0 : Int) (a1 : Int) (a2 : Int) : Option (Int × mA) := (Option.bind (f_Mo_oddsO A a1 (-1)) (fun q1 => (Option.bind (f_Mo_against q1.2 q1.1.toNat) (fun q4 => (if g32 q4.1 then (if q4.1 = 0 then (Option.bind (f_Mo_otherwise q4.2 a0 q1.1.toNat a2) (fun q8 => (if g32 q8.1 then (if q8.1 = (-1) then (some (1, q8.2)) else (some (0, q8.2))) else none))) else (some (0, q4.2))) else none)))))
theorem f_x_Mo_isSo_0_3 : mblkB b_Mo_isSo [(0, .aload_n 0, vi 0), (1, .iload_n 2, vi 0), (2, .iconst (-1), vi (-1))] = true := by decide +kernel
theorem e_x_Mo_isSo_3 : decode b_Mo_isSo 3 = .ok (.invokevirtual 367, 3) := by decide +kernel
theorem f_x_Mo_isSo_6_3 : mblkB b_Mo_isSo [(6, .astore 4, vi 0), (8, .aload_n 0, vi 0), (9, .aload 4, vi 0)] = true := by decide +kernel
theorem e_x_Mo_isSo_11 : decode b_Mo_isSo 11 = .ok (.invokevirtual 380, 3) := by decide +kernel
theorem e_x_Mo_isSo_14 : decode b_Mo_isSo 14 = .ok (.ifCond .ne 19, 3) := by decide +kernel
theorem f_x_Mo_isSo_33_1 : mblkB b_Mo_isSo [(33, .iconst 0, vi 0)] = true := by decide +kernel
theorem e_x_Mo_isSo_34 : decode b_Mo_isSo 34 = .ok (.ireturn, 1) := by decide +kernel
theorem f_x_Mo_isSo_17_4 : mblkB b_Mo_isSo [(17, .aload_n 0, vi 0), (18, .iload_n 1, vi 0), (19, .aload 4, vi 0), (21, .iload_n 3, vi 0)] = true := by decide +kernel
theorem e_x_Mo_isSo_22 : decode b_Mo_isSo 22 = .ok (.invokevirtual 418, 3) := by decide +kernel
theorem f_x_Mo_isSo_25_1 : mblkB b_Mo_isSo [(25, .iconst (-1), vi (-1))] = true := by decide +kernel
theorem e_x_Mo_isSo_26 : decode b_Mo_isSo 26 = .ok (.if_icmp .ne 7, 3) := by decide +kernel
theorem f_x_Mo_isSo_29_2 : mblkB b_Mo_isSo [(29, .iconst 1, vi 1), (30, .goto 4, vi 34)] = true := by decide +kernel
set_option maxHeartbeats 4000000 in
set_option maxRecDepth 20000 in
theorem x_Mo_isSo  : ∀ (l : Launch) (D : va_G) (B : Nat) (H0 : Heap) (ad : mAd) (A : mA) (a0 : Int) (a1 : Int) (a2 : Int) (hS : mStr D ad) (r9 : Int) (A9 : mA), f_Mo_isSo  A a0 a1 a2 = some (r9, A9) → mMet l D B H0 ad y_Mo_isSo b_Mo_isSo 5 (some .boolean) 1083 35675 [vr 0 0, vi a0, vi a1, vi a2] A (fun v A' => v = some (vi r9) ∧ A' = A9) := by
  intro l D B H0 ad A a0 a1 a2  hS r9 A9 h
  refine m_met (by decide) rfl (fun g w0 C Rm Y E => ?_)
  show JM g D ad w0 A 0 [(0, vr 0 0), (1, vi a0), (2, vi a1), (3, vi a2)] []
  unfold f_Mo_isSo at h
  refine m_blk 3 [(0, vr 0 0), (1, vi a0), (2, vi a1), (3, vi a2)] [vi (-1), vi a1, vr 0 0] C f_x_Mo_isSo_0_3 rfl ?_
  obtain ⟨q1, e2, h⟩ := obd h
  refine m_callV C Rm Y [vi a1, vi (-1)] [] (x_Mo_oddsO l D B H0 ad _ a1 (-1) hS _ _ e2) cl_Mo_367 rfl (by decide) rfl rfl e_x_Mo_isSo_3 rfl rfl rfl ⟨by decide, by decide⟩ ?_
  rintro _ _ ⟨rfl, rfl, g3⟩
  show JM g D ad w0 q1.2 6 [(0, vr 0 0), (1, vi a0), (2, vi a1), (3, vi a2)] [vr 1 q1.1.toNat]
  refine m_blk 11 [(4, vr 1 q1.1.toNat), (0, vr 0 0), (1, vi a0), (2, vi a1), (3, vi a2)] [vr 1 q1.1.toNat, vr 0 0] C f_x_Mo_isSo_6_3 rfl ?_
  obtain ⟨q4, e5, h⟩ := obd h
  refine m_callV C Rm Y [vr 1 q1.1.toNat] [] (x_Mo_against l D B H0 ad _ q1.1.toNat (g3) hS _ _ e5) cl_Mo_380 rfl (by decide) rfl rfl e_x_Mo_isSo_11 rfl rfl rfl ⟨by decide, by decide⟩ ?_
  rintro _ _ ⟨rfl, rfl⟩
  show JM g D ad w0 q4.2 14 [(4, vr 1 q1.1.toNat), (0, vr 0 0), (1, vi a0), (2, vi a1), (3, vi a2)] [vi q4.1]
  obtain ⟨c6, h⟩ := igd h
  refine m_if_ne (tgt := 33) C e_x_Mo_isSo_14 (by decide) c6 (fun c7 => ?_) (fun c7 => ?_)
  · have h := ifn c7 h
    refine m_blk 34 [(4, vr 1 q1.1.toNat), (0, vr 0 0), (1, vi a0), (2, vi a1), (3, vi a2)] [vi 0] C f_x_Mo_isSo_33_1 rfl ?_
    exact m_zret C Rm E (Or.inl rfl) e_x_Mo_isSo_34 (fin1 h)
  · have h := ifp c7 h
    refine m_blk 22 [(4, vr 1 q1.1.toNat), (0, vr 0 0), (1, vi a0), (2, vi a1), (3, vi a2)] [vi a2, vr 1 q1.1.toNat, vi a0, vr 0 0] C f_x_Mo_isSo_17_4 rfl ?_
    obtain ⟨q8, e9, h⟩ := obd h
    refine m_callV C Rm Y [vi a0, vr 1 q1.1.toNat, vi a2] [] (x_Mo_otherwise l D B H0 ad _ a0 q1.1.toNat a2 (g3) hS _ _ e9) cl_Mo_418 rfl (by decide) rfl rfl e_x_Mo_isSo_22 rfl rfl rfl ⟨by decide, by decide⟩ ?_
    rintro _ _ ⟨rfl, rfl⟩
    show JM g D ad w0 q8.2 25 [(4, vr 1 q1.1.toNat), (0, vr 0 0), (1, vi a0), (2, vi a1), (3, vi a2)] [vi q8.1]
    refine m_blk 26 [(4, vr 1 q1.1.toNat), (0, vr 0 0), (1, vi a0), (2, vi a1), (3, vi a2)] [vi (-1), vi q8.1] C f_x_Mo_isSo_25_1 rfl ?_
    obtain ⟨c10, h⟩ := igd h
    refine m_icmp_ne (tgt := 33) C e_x_Mo_isSo_26 (by decide) c10 (by decide) (fun c11 => ?_) (fun c11 => ?_)
    · have h := ifn c11 h
      refine m_blk 34 [(4, vr 1 q1.1.toNat), (0, vr 0 0), (1, vi a0), (2, vi a1), (3, vi a2)] [vi 0] C f_x_Mo_isSo_33_1 rfl ?_
      exact m_zret C Rm E (Or.inl rfl) e_x_Mo_isSo_34 (fin1 h)
    · have h := ifp c11 h
      refine m_blk 34 [(4, vr 1 q1.1.toNat), (0, vr 0 0), (1, vi a0), (2, vi a1), (3, vi a2)] [vi 1] C f_x_Mo_isSo_29_2 rfl ?_
      exact m_zret C Rm E (Or.inr rfl) e_x_Mo_isSo_34 (fin1 h)

def f_Mo_foldI (A : mA) (a0 : Int) (a1 : Int) : Option (Int × mA) := (if g32 a0 then (if a0 = 0 then (some (a1, A)) else (if a0 = 1 then (some ((a1 * a1), A)) else (if a0 = 2 then (if g32 a1 then (some ((1 - (Int.tmod a1 2)), A)) else none) else (if a0 = 3 then (some (((a1 * a1) * a1), A)) else (if a0 = 4 then (if g32 a1 then (some ((Int.tmod a1 2), A)) else none) else (some ((9 - a1), A))))))) else none)
theorem f_x_Mo_foldI_0_1 : mblkB b_Mo_fold_0 [(0, .iload_n 0, vi 0)] = true := by decide +kernel
theorem e_x_Mo_foldI_1 : decode b_Mo_fold_0 1 = .ok (.ifCond .ne 7, 3) := by decide +kernel
theorem f_x_Mo_foldI_8_2 : mblkB b_Mo_fold_0 [(8, .iload_n 0, vi 0), (9, .iconst 1, vi 1)] = true := by decide +kernel
theorem e_x_Mo_foldI_10 : decode b_Mo_fold_0 10 = .ok (.if_icmp .ne 9, 3) := by decide +kernel
theorem f_x_Mo_foldI_19_2 : mblkB b_Mo_fold_0 [(19, .iload_n 0, vi 0), (20, .iconst 2, vi 2)] = true := by decide +kernel
theorem e_x_Mo_foldI_21 : decode b_Mo_fold_0 21 = .ok (.if_icmp .ne 11, 3) := by decide +kernel
theorem f_x_Mo_foldI_32_2 : mblkB b_Mo_fold_0 [(32, .iload_n 0, vi 0), (33, .iconst 3, vi 3)] = true := by decide +kernel
theorem e_x_Mo_foldI_34 : decode b_Mo_fold_0 34 = .ok (.if_icmp .ne 11, 3) := by decide +kernel
theorem f_x_Mo_foldI_45_2 : mblkB b_Mo_fold_0 [(45, .iload_n 0, vi 0), (46, .iconst 4, vi 4)] = true := by decide +kernel
theorem e_x_Mo_foldI_47 : decode b_Mo_fold_0 47 = .ok (.if_icmp .ne 9, 3) := by decide +kernel
theorem f_x_Mo_foldI_56_3 : mblkB b_Mo_fold_0 [(56, .bipush 9, vi 9), (58, .iload_n 1, vi 0), (59, .isub, vi 0)] = true := by decide +kernel
theorem e_x_Mo_foldI_60 : decode b_Mo_fold_0 60 = .ok (.ireturn, 1) := by decide +kernel
theorem f_x_Mo_foldI_50_2 : mblkB b_Mo_fold_0 [(50, .iload_n 1, vi 0), (51, .iconst 2, vi 2)] = true := by decide +kernel
theorem e_x_Mo_foldI_52 : decode b_Mo_fold_0 52 = .ok (.irem, 1) := by decide +kernel
theorem f_x_Mo_foldI_53_1 : mblkB b_Mo_fold_0 [(53, .goto 7, vi 60)] = true := by decide +kernel
theorem f_x_Mo_foldI_37_6 : mblkB b_Mo_fold_0 [(37, .iload_n 1, vi 0), (38, .iload_n 1, vi 0), (39, .imul, vi 0), (40, .iload_n 1, vi 0), (41, .imul, vi 0), (42, .goto 18, vi 60)] = true := by decide +kernel
theorem f_x_Mo_foldI_24_3 : mblkB b_Mo_fold_0 [(24, .iconst 1, vi 1), (25, .iload_n 1, vi 0), (26, .iconst 2, vi 2)] = true := by decide +kernel
theorem e_x_Mo_foldI_27 : decode b_Mo_fold_0 27 = .ok (.irem, 1) := by decide +kernel
theorem f_x_Mo_foldI_28_2 : mblkB b_Mo_fold_0 [(28, .isub, vi 0), (29, .goto 31, vi 60)] = true := by decide +kernel
theorem f_x_Mo_foldI_13_4 : mblkB b_Mo_fold_0 [(13, .iload_n 1, vi 0), (14, .iload_n 1, vi 0), (15, .imul, vi 0), (16, .goto 44, vi 60)] = true := by decide +kernel
theorem f_x_Mo_foldI_4_2 : mblkB b_Mo_fold_0 [(4, .iload_n 1, vi 0), (5, .goto 55, vi 60)] = true := by decide +kernel
set_option maxHeartbeats 4000000 in
set_option maxRecDepth 20000 in
theorem x_Mo_foldI  : ∀ (l : Launch) (D : va_G) (B : Nat) (H0 : Heap) (ad : mAd) (A : mA) (a0 : Int) (a1 : Int) (hS : mStr D ad) (r9 : Int) (A9 : mA), f_Mo_foldI  A a0 a1 = some (r9, A9) → mMet l D B H0 ad y_Mo_fold_0 b_Mo_fold_0 2 (some .int) 0 0 [vi a0, vi a1] A (fun v A' => v = some (vi r9) ∧ A' = A9) := by
  intro l D B H0 ad A a0 a1  hS r9 A9 h
  refine m_met (by decide) rfl (fun g w0 C Rm Y E => ?_)
  show JM g D ad w0 A 0 [(0, vi a0), (1, vi a1)] []
  unfold f_Mo_foldI at h
  refine m_blk 1 [(0, vi a0), (1, vi a1)] [vi a0] C f_x_Mo_foldI_0_1 rfl ?_
  obtain ⟨c1, h⟩ := igd h
  refine m_if_ne (tgt := 8) C e_x_Mo_foldI_1 (by decide) c1 (fun c2 => ?_) (fun c2 => ?_)
  · have h := ifn c2 h
    refine m_blk 10 [(0, vi a0), (1, vi a1)] [vi 1, vi a0] C f_x_Mo_foldI_8_2 rfl ?_
    refine m_icmp_ne (tgt := 19) C e_x_Mo_foldI_10 (by decide) c1 (by decide) (fun c3 => ?_) (fun c3 => ?_)
    · have h := ifn c3 h
      refine m_blk 21 [(0, vi a0), (1, vi a1)] [vi 2, vi a0] C f_x_Mo_foldI_19_2 rfl ?_
      refine m_icmp_ne (tgt := 32) C e_x_Mo_foldI_21 (by decide) c1 (by decide) (fun c4 => ?_) (fun c4 => ?_)
      · have h := ifn c4 h
        refine m_blk 34 [(0, vi a0), (1, vi a1)] [vi 3, vi a0] C f_x_Mo_foldI_32_2 rfl ?_
        refine m_icmp_ne (tgt := 45) C e_x_Mo_foldI_34 (by decide) c1 (by decide) (fun c5 => ?_) (fun c5 => ?_)
        · have h := ifn c5 h
          refine m_blk 47 [(0, vi a0), (1, vi a1)] [vi 4, vi a0] C f_x_Mo_foldI_45_2 rfl ?_
          refine m_icmp_ne (tgt := 56) C e_x_Mo_foldI_47 (by decide) c1 (by decide) (fun c6 => ?_) (fun c6 => ?_)
          · have h := ifn c6 h
            refine m_blk 60 [(0, vi a0), (1, vi a1)] [vi (9 - a1)] C f_x_Mo_foldI_56_3 rfl ?_
            exact m_iret C Rm E e_x_Mo_foldI_60 (fin1 h)
          · have h := ifp c6 h
            refine m_blk 52 [(0, vi a0), (1, vi a1)] [vi 2, vi a1] C f_x_Mo_foldI_50_2 rfl ?_
            obtain ⟨c7, h⟩ := igd h
            refine m_irem C e_x_Mo_foldI_52 c7 (by decide) (by decide) ?_
            refine m_blk 60 [(0, vi a0), (1, vi a1)] [vi (Int.tmod a1 2)] C f_x_Mo_foldI_53_1 rfl ?_
            exact m_iret C Rm E e_x_Mo_foldI_60 (fin1 h)
        · have h := ifp c5 h
          refine m_blk 60 [(0, vi a0), (1, vi a1)] [vi ((a1 * a1) * a1)] C f_x_Mo_foldI_37_6 rfl ?_
          exact m_iret C Rm E e_x_Mo_foldI_60 (fin1 h)
      · have h := ifp c4 h
        refine m_blk 27 [(0, vi a0), (1, vi a1)] [vi 2, vi a1, vi 1] C f_x_Mo_foldI_24_3 rfl ?_
        obtain ⟨c8, h⟩ := igd h
        refine m_irem C e_x_Mo_foldI_27 c8 (by decide) (by decide) ?_
        refine m_blk 60 [(0, vi a0), (1, vi a1)] [vi (1 - (Int.tmod a1 2))] C f_x_Mo_foldI_28_2 rfl ?_
        exact m_iret C Rm E e_x_Mo_foldI_60 (fin1 h)
    · have h := ifp c3 h
      refine m_blk 60 [(0, vi a0), (1, vi a1)] [vi (a1 * a1)] C f_x_Mo_foldI_13_4 rfl ?_
      exact m_iret C Rm E e_x_Mo_foldI_60 (fin1 h)
  · have h := ifp c2 h
    refine m_blk 60 [(0, vi a0), (1, vi a1)] [vi a1] C f_x_Mo_foldI_4_2 rfl ?_
    exact m_iret C Rm E e_x_Mo_foldI_60 (fin1 h)

def f_Mo_told_86 : Nat → mA → Int → Int → Int → Option (Int × mA)
  | 0, _, _, _, _ => none
  | n + 1, A, b1, b3, b4 => (if (0 ≤ b1 ∧ b1 < ((6 : Nat) : Int)) then (if g32 b4 then if g32 (A 5 0 b1.toNat) then (if (A 5 0 b1.toNat) ≤ b4 then (some (b3, A)) else (if (0 ≤ b4 ∧ b4 < ((16 : Nat) : Int)) then (Option.bind (f_Mo_namesInN 121 A b1 (A 39 b1.toNat b4.toNat)) (fun q7 => (if g32 (q7.2 35 b1.toNat b4.toNat) then (if (q7.2 35 b1.toNat b4.toNat) = (-1) then (f_Mo_told_86  n q7.2 b1 (iOr b3 (iOr q7.1 0)) (b4 + 1)) else (f_Mo_told_86  n q7.2 b1 (iOr b3 (iOr q7.1 (iShl 1 (q7.2 35 b1.toNat b4.toNat)))) (b4 + 1))) else none))) else none)) else none else none) else none)
def f_Mo_told (A : mA) (a0 : Int) (a1 : Int) : Option (Int × mA) := (Option.bind (f_Mo_isProgram A a0) (fun q13 => (if g32 q13.1 then (if q13.1 = 0 then (some ((-2), q13.2)) else (Option.bind (f_Mo_in q13.2 a1 0 6) (fun q17 => (if g32 q17.1 then (if q17.1 = 0 then (some ((-2), q17.2)) else (if g32 a1 then (if a1 = 0 then (if (0 ≤ a0 ∧ a0 < ((6 : Nat) : Int)) then (some ((q17.2 5 0 a0.toNat), q17.2)) else none) else (if a1 = 1 then (if (0 ≤ a0 ∧ a0 < ((6 : Nat) : Int)) then (some ((q17.2 6 0 a0.toNat), q17.2)) else none) else (if a1 = 2 then (Option.bind (f_Mo_seesN 7 q17.2 a0) (fun q36 => (if g32 q36.1 then (if q36.1 = 0 then (some (0, q36.2)) else (some (1, q36.2))) else none))) else (if a1 = 6 then (if (0 ≤ a0 ∧ a0 < ((6 : Nat) : Int)) then (some ((q17.2 7 0 a0.toNat), q17.2)) else none) else (if a1 = 3 then (f_Mo_told_86  310 q17.2 a0 0 0) else (Option.bind (f_Mo_oddsO q17.2 a0 (-1)) (fun q27 => (if a1 = 4 then (if g32 (q27.2 0 0 34) then (if (q27.2 0 0 34) = 0 then (some (0, q27.2)) else (some (1, q27.2))) else none) else (if g32 (q27.2 0 0 34) then (if (q27.2 0 0 34) = 0 then (some ((q27.2 1 q27.1.toNat 2), q27.2)) else (some ((-6), q27.2))) else none))))))))) else none)) else none)))) else none)))
theorem f_x_Mo_told_0_2 : mblkB b_Mo_told [(0, .aload_n 0, vi 0), (1, .iload_n 1, vi 0)] = true := by decide +kernel
theorem e_x_Mo_told_2 : decode b_Mo_told 2 = .ok (.invokevirtual 364, 3) := by decide +kernel
theorem e_x_Mo_told_5 : decode b_Mo_told 5 = .ok (.ifCond .eq 13, 3) := by decide +kernel
theorem f_x_Mo_told_18_1 : mblkB b_Mo_told [(18, .bipush (-2), vi (-2))] = true := by decide +kernel
theorem e_x_Mo_told_20 : decode b_Mo_told 20 = .ok (.ireturn, 1) := by decide +kernel
theorem f_x_Mo_told_8_3 : mblkB b_Mo_told [(8, .iload_n 2, vi 0), (9, .iconst 0, vi 0), (10, .bipush 6, vi 6)] = true := by decide +kernel
theorem e_x_Mo_told_12 : decode b_Mo_told 12 = .ok (.invokestatic 108, 3) := by decide +kernel
theorem e_x_Mo_told_15 : decode b_Mo_told 15 = .ok (.ifCond .ne 6, 3) := by decide +kernel
theorem f_x_Mo_told_21_1 : mblkB b_Mo_told [(21, .iload_n 2, vi 0)] = true := by decide +kernel
theorem e_x_Mo_told_22 : decode b_Mo_told 22 = .ok (.ifCond .ne 10, 3) := by decide +kernel
theorem f_x_Mo_told_32_2 : mblkB b_Mo_told [(32, .iload_n 2, vi 0), (33, .iconst 1, vi 1)] = true := by decide +kernel
theorem e_x_Mo_told_34 : decode b_Mo_told 34 = .ok (.if_icmp .ne 10, 3) := by decide +kernel
theorem f_x_Mo_told_44_2 : mblkB b_Mo_told [(44, .iload_n 2, vi 0), (45, .iconst 2, vi 2)] = true := by decide +kernel
theorem e_x_Mo_told_46 : decode b_Mo_told 46 = .ok (.if_icmp .ne 17, 3) := by decide +kernel
theorem f_x_Mo_told_63_2 : mblkB b_Mo_told [(63, .iload_n 2, vi 0), (64, .bipush 6, vi 6)] = true := by decide +kernel
theorem e_x_Mo_told_66 : decode b_Mo_told 66 = .ok (.if_icmp .ne 10, 3) := by decide +kernel
theorem f_x_Mo_told_76_2 : mblkB b_Mo_told [(76, .iload_n 2, vi 0), (77, .iconst 3, vi 3)] = true := by decide +kernel
theorem e_x_Mo_told_78 : decode b_Mo_told 78 = .ok (.if_icmp .ne 73, 3) := by decide +kernel
theorem f_x_Mo_told_151_3 : mblkB b_Mo_told [(151, .aload_n 0, vi 0), (152, .iload_n 1, vi 0), (153, .iconst (-1), vi (-1))] = true := by decide +kernel
theorem e_x_Mo_told_154 : decode b_Mo_told 154 = .ok (.invokevirtual 367, 3) := by decide +kernel
theorem f_x_Mo_told_157_3 : mblkB b_Mo_told [(157, .astore_n 3, vi 0), (158, .iload_n 2, vi 0), (159, .iconst 4, vi 4)] = true := by decide +kernel
theorem e_x_Mo_told_160 : decode b_Mo_told 160 = .ok (.if_icmp .ne 16, 3) := by decide +kernel
theorem f_x_Mo_told_176_1 : mblkB b_Mo_told [(176, .aload_n 0, vi 0)] = true := by decide +kernel
theorem e_x_Mo_told_177 : decode b_Mo_told 177 = .ok (.getfield 297, 3) := by decide +kernel
theorem e_x_Mo_told_180 : decode b_Mo_told 180 = .ok (.ifCond .eq 8, 3) := by decide +kernel
theorem f_x_Mo_told_188_1 : mblkB b_Mo_told [(188, .aload_n 3, vi 0)] = true := by decide +kernel
theorem e_x_Mo_told_189 : decode b_Mo_told 189 = .ok (.getfield 272, 3) := by decide +kernel
theorem e_x_Mo_told_192 : decode b_Mo_told 192 = .ok (.ireturn, 1) := by decide +kernel
theorem f_x_Mo_told_183_2 : mblkB b_Mo_told [(183, .bipush (-6), vi (-6)), (185, .goto 7, vi 192)] = true := by decide +kernel
theorem f_x_Mo_told_163_1 : mblkB b_Mo_told [(163, .aload_n 0, vi 0)] = true := by decide +kernel
theorem e_x_Mo_told_164 : decode b_Mo_told 164 = .ok (.getfield 297, 3) := by decide +kernel
theorem e_x_Mo_told_167 : decode b_Mo_told 167 = .ok (.ifCond .eq 7, 3) := by decide +kernel
theorem f_x_Mo_told_174_1 : mblkB b_Mo_told [(174, .iconst 0, vi 0)] = true := by decide +kernel
theorem e_x_Mo_told_175 : decode b_Mo_told 175 = .ok (.ireturn, 1) := by decide +kernel
theorem f_x_Mo_told_170_2 : mblkB b_Mo_told [(170, .iconst 1, vi 1), (171, .goto 4, vi 175)] = true := by decide +kernel
theorem f_x_Mo_told_81_4 : mblkB b_Mo_told [(81, .iconst 0, vi 0), (82, .istore_n 3, vi 0), (83, .iconst 0, vi 0), (84, .istore 4, vi 0)] = true := by decide +kernel
theorem f_x_Mo_told_69_1 : mblkB b_Mo_told [(69, .aload_n 0, vi 0)] = true := by decide +kernel
theorem e_x_Mo_told_70 : decode b_Mo_told 70 = .ok (.getfield 16, 3) := by decide +kernel
theorem f_x_Mo_told_73_1 : mblkB b_Mo_told [(73, .iload_n 1, vi 0)] = true := by decide +kernel
theorem e_x_Mo_told_74 : decode b_Mo_told 74 = .ok (.iaload, 1) := by decide +kernel
theorem e_x_Mo_told_75 : decode b_Mo_told 75 = .ok (.ireturn, 1) := by decide +kernel
theorem f_x_Mo_told_49_2 : mblkB b_Mo_told [(49, .aload_n 0, vi 0), (50, .iload_n 1, vi 0)] = true := by decide +kernel
theorem e_x_Mo_told_51 : decode b_Mo_told 51 = .ok (.invokevirtual 303, 3) := by decide +kernel
theorem e_x_Mo_told_54 : decode b_Mo_told 54 = .ok (.ifCond .eq 7, 3) := by decide +kernel
theorem f_x_Mo_told_61_1 : mblkB b_Mo_told [(61, .iconst 0, vi 0)] = true := by decide +kernel
theorem e_x_Mo_told_62 : decode b_Mo_told 62 = .ok (.ireturn, 1) := by decide +kernel
theorem f_x_Mo_told_57_2 : mblkB b_Mo_told [(57, .iconst 1, vi 1), (58, .goto 4, vi 62)] = true := by decide +kernel
theorem f_x_Mo_told_37_1 : mblkB b_Mo_told [(37, .aload_n 0, vi 0)] = true := by decide +kernel
theorem e_x_Mo_told_38 : decode b_Mo_told 38 = .ok (.getfield 13, 3) := by decide +kernel
theorem f_x_Mo_told_41_1 : mblkB b_Mo_told [(41, .iload_n 1, vi 0)] = true := by decide +kernel
theorem e_x_Mo_told_42 : decode b_Mo_told 42 = .ok (.iaload, 1) := by decide +kernel
theorem e_x_Mo_told_43 : decode b_Mo_told 43 = .ok (.ireturn, 1) := by decide +kernel
theorem f_x_Mo_told_25_1 : mblkB b_Mo_told [(25, .aload_n 0, vi 0)] = true := by decide +kernel
theorem e_x_Mo_told_26 : decode b_Mo_told 26 = .ok (.getfield 9, 3) := by decide +kernel
theorem f_x_Mo_told_29_1 : mblkB b_Mo_told [(29, .iload_n 1, vi 0)] = true := by decide +kernel
theorem e_x_Mo_told_30 : decode b_Mo_told 30 = .ok (.iaload, 1) := by decide +kernel
theorem e_x_Mo_told_31 : decode b_Mo_told 31 = .ok (.ireturn, 1) := by decide +kernel
theorem f_x_Mo_told_86_2 : mblkB b_Mo_told [(86, .iload 4, vi 0), (88, .aload_n 0, vi 0)] = true := by decide +kernel
theorem e_x_Mo_told_89 : decode b_Mo_told 89 = .ok (.getfield 9, 3) := by decide +kernel
theorem f_x_Mo_told_92_1 : mblkB b_Mo_told [(92, .iload_n 1, vi 0)] = true := by decide +kernel
theorem e_x_Mo_told_93 : decode b_Mo_told 93 = .ok (.iaload, 1) := by decide +kernel
theorem e_x_Mo_told_94 : decode b_Mo_told 94 = .ok (.if_icmp .ge 55, 3) := by decide +kernel
theorem f_x_Mo_told_149_1 : mblkB b_Mo_told [(149, .iload_n 3, vi 0)] = true := by decide +kernel
theorem e_x_Mo_told_150 : decode b_Mo_told 150 = .ok (.ireturn, 1) := by decide +kernel
theorem f_x_Mo_told_97_4 : mblkB b_Mo_told [(97, .iload_n 3, vi 0), (98, .aload_n 0, vi 0), (99, .iload_n 1, vi 0), (100, .aload_n 0, vi 0)] = true := by decide +kernel
theorem e_x_Mo_told_101 : decode b_Mo_told 101 = .ok (.getfield 36, 3) := by decide +kernel
theorem f_x_Mo_told_104_1 : mblkB b_Mo_told [(104, .iload_n 1, vi 0)] = true := by decide +kernel
theorem e_x_Mo_told_105 : decode b_Mo_told 105 = .ok (.aaload, 1) := by decide +kernel
theorem f_x_Mo_told_106_1 : mblkB b_Mo_told [(106, .iload 4, vi 0)] = true := by decide +kernel
theorem e_x_Mo_told_108 : decode b_Mo_told 108 = .ok (.iaload, 1) := by decide +kernel
theorem e_x_Mo_told_109 : decode b_Mo_told 109 = .ok (.invokevirtual 266, 3) := by decide +kernel
theorem f_x_Mo_told_112_1 : mblkB b_Mo_told [(112, .aload_n 0, vi 0)] = true := by decide +kernel
theorem e_x_Mo_told_113 : decode b_Mo_told 113 = .ok (.getfield 24, 3) := by decide +kernel
theorem f_x_Mo_told_116_1 : mblkB b_Mo_told [(116, .iload_n 1, vi 0)] = true := by decide +kernel
theorem e_x_Mo_told_117 : decode b_Mo_told 117 = .ok (.aaload, 1) := by decide +kernel
theorem f_x_Mo_told_118_1 : mblkB b_Mo_told [(118, .iload 4, vi 0)] = true := by decide +kernel
theorem e_x_Mo_told_120 : decode b_Mo_told 120 = .ok (.iaload, 1) := by decide +kernel
theorem f_x_Mo_told_121_1 : mblkB b_Mo_told [(121, .iconst (-1), vi (-1))] = true := by decide +kernel
theorem e_x_Mo_told_122 : decode b_Mo_told 122 = .ok (.if_icmp .ne 7, 3) := by decide +kernel
theorem f_x_Mo_told_129_2 : mblkB b_Mo_told [(129, .iconst 1, vi 1), (130, .aload_n 0, vi 0)] = true := by decide +kernel
theorem e_x_Mo_told_131 : decode b_Mo_told 131 = .ok (.getfield 24, 3) := by decide +kernel
theorem f_x_Mo_told_134_1 : mblkB b_Mo_told [(134, .iload_n 1, vi 0)] = true := by decide +kernel
theorem e_x_Mo_told_135 : decode b_Mo_told 135 = .ok (.aaload, 1) := by decide +kernel
theorem f_x_Mo_told_136_1 : mblkB b_Mo_told [(136, .iload 4, vi 0)] = true := by decide +kernel
theorem e_x_Mo_told_138 : decode b_Mo_told 138 = .ok (.iaload, 1) := by decide +kernel
theorem f_x_Mo_told_139_6 : mblkB b_Mo_told [(139, .ishl, vi 0), (140, .ior, vi 0), (141, .ior, vi 0), (142, .istore_n 3, vi 0), (143, .iinc 4 1, vi 1), (146, .goto (-60), vi 86)] = true := by decide +kernel
theorem f_x_Mo_told_125_2 : mblkB b_Mo_told [(125, .iconst 0, vi 0), (126, .goto 14, vi 140)] = true := by decide +kernel
theorem f_x_Mo_told_140_5 : mblkB b_Mo_told [(140, .ior, vi 0), (141, .ior, vi 0), (142, .istore_n 3, vi 0), (143, .iinc 4 1, vi 1), (146, .goto (-60), vi 86)] = true := by decide +kernel
set_option maxHeartbeats 4000000 in
set_option maxRecDepth 20000 in
theorem x_Mo_told  : ∀ (l : Launch) (D : va_G) (B : Nat) (H0 : Heap) (ad : mAd) (A : mA) (a0 : Int) (a1 : Int) (hS : mStr D ad) (r9 : Int) (A9 : mA), f_Mo_told  A a0 a1 = some (r9, A9) → mMet l D B H0 ad y_Mo_told b_Mo_told 5 (some .int) 1083 35675 [vr 0 0, vi a0, vi a1] A (fun v A' => v = some (vi r9) ∧ A' = A9) := by
  intro l D B H0 ad A a0 a1  hS r9 A9 h
  refine m_met (by decide) rfl (fun g w0 C Rm Y E => ?_)
  have hd_86 : ∀ (n : Nat) (A : mA) (b1 : Int) (b3 : Int) (b4 : Int) , f_Mo_told_86  n A b1 b3 b4 = some (r9, A9) → JM g D ad w0 A 86 [(0, vr 0 0), (1, vi b1), (3, vi b3), (4, vi b4)] [] := by
    intro n
    induction n with
    | zero => intro A b1 b3 b4  h; cases h
    | succ n ih =>
      intro A b1 b3 b4  h
      unfold f_Mo_told_86 at h
      refine m_blk 89 [(0, vr 0 0), (1, vi b1), (3, vi b3), (4, vi b4)] [vr 0 0, vi b4] C f_x_Mo_told_86_2 rfl ?_
      refine m_getr C e_x_Mo_told_89 fg_Mo_9 rfl (by decide) rfl ?_
      refine m_blk 93 [(0, vr 0 0), (1, vi b1), (3, vi b3), (4, vi b4)] [vi b1, vr 5 0, vi b4] C f_x_Mo_told_92_1 rfl ?_
      obtain ⟨c1, h⟩ := igd h
      refine m_iald C e_x_Mo_told_93 rfl (by decide) (by decide) c1.1 c1.2 (A 5 0 b1.toNat) rfl ?_
      obtain ⟨c2, h⟩ := igd h
      obtain ⟨c3, h⟩ := igd h
      refine m_icmp_ge (tgt := 149) C e_x_Mo_told_94 (by decide) c2 c3 (fun c4 => ?_) (fun c4 => ?_)
      · have h := ifp c4 h
        refine m_blk 150 [(0, vr 0 0), (1, vi b1), (3, vi b3), (4, vi b4)] [vi b3] C f_x_Mo_told_149_1 rfl ?_
        exact m_iret C Rm E e_x_Mo_told_150 (fin1 h)
      · have h := ifn c4 h
        refine m_blk 101 [(0, vr 0 0), (1, vi b1), (3, vi b3), (4, vi b4)] [vr 0 0, vi b1, vr 0 0, vi b3] C f_x_Mo_told_97_4 rfl ?_
        refine m_getr C e_x_Mo_told_101 fg_Mo_36 rfl (by decide) rfl ?_
        refine m_blk 105 [(0, vr 0 0), (1, vi b1), (3, vi b3), (4, vi b4)] [vi b1, vr 19 0, vi b1, vr 0 0, vi b3] C f_x_Mo_told_104_1 rfl ?_
        have k5 : b1.toNat < 6 := by omega
        refine m_aald C b1.toNat e_x_Mo_told_105 rfl rfl rfl (by decide) (by decide) c1.1 c1.2 (mz _ _) ?_
        refine m_blk 108 [(0, vr 0 0), (1, vi b1), (3, vi b3), (4, vi b4)] [vi b4, vr 39 b1.toNat, vi b1, vr 0 0, vi b3] C f_x_Mo_told_106_1 rfl ?_
        obtain ⟨c6, h⟩ := igd h
        refine m_iald C e_x_Mo_told_108 rfl (k5) (by decide) c6.1 c6.2 (A 39 b1.toNat b4.toNat) rfl ?_
        obtain ⟨q7, e8, h⟩ := obd h
        refine m_callV C Rm Y [vi b1, vi (A 39 b1.toNat b4.toNat)] [vi b3] (x_Mo_namesInN 121 l D B H0 ad _ b1 (A 39 b1.toNat b4.toNat) hS _ _ e8) cl_Mo_266 rfl (by decide) rfl rfl e_x_Mo_told_109 rfl rfl rfl ⟨by decide, by decide⟩ ?_
        rintro _ _ ⟨rfl, rfl⟩
        show JM g D ad w0 q7.2 112 [(0, vr 0 0), (1, vi b1), (3, vi b3), (4, vi b4)] [vi q7.1, vi b3]
        refine m_blk 113 [(0, vr 0 0), (1, vi b1), (3, vi b3), (4, vi b4)] [vr 0 0, vi q7.1, vi b3] C f_x_Mo_told_112_1 rfl ?_
        refine m_getr C e_x_Mo_told_113 fg_Mo_24 rfl (by decide) rfl ?_
        refine m_blk 117 [(0, vr 0 0), (1, vi b1), (3, vi b3), (4, vi b4)] [vi b1, vr 15 0, vi q7.1, vi b3] C f_x_Mo_told_116_1 rfl ?_
        have k9 : b1.toNat < 6 := by omega
        refine m_aald C b1.toNat e_x_Mo_told_117 rfl rfl rfl (by decide) (by decide) c1.1 c1.2 (mz _ _) ?_
        refine m_blk 120 [(0, vr 0 0), (1, vi b1), (3, vi b3), (4, vi b4)] [vi b4, vr 35 b1.toNat, vi q7.1, vi b3] C f_x_Mo_told_118_1 rfl ?_
        refine m_iald C e_x_Mo_told_120 rfl (k9) (by decide) c6.1 c6.2 (q7.2 35 b1.toNat b4.toNat) rfl ?_
        refine m_blk 122 [(0, vr 0 0), (1, vi b1), (3, vi b3), (4, vi b4)] [vi (-1), vi (q7.2 35 b1.toNat b4.toNat), vi q7.1, vi b3] C f_x_Mo_told_121_1 rfl ?_
        obtain ⟨c10, h⟩ := igd h
        refine m_icmp_ne (tgt := 129) C e_x_Mo_told_122 (by decide) c10 (by decide) (fun c11 => ?_) (fun c11 => ?_)
        · have h := ifn c11 h
          refine m_blk 131 [(0, vr 0 0), (1, vi b1), (3, vi b3), (4, vi b4)] [vr 0 0, vi 1, vi q7.1, vi b3] C f_x_Mo_told_129_2 rfl ?_
          refine m_getr C e_x_Mo_told_131 fg_Mo_24 rfl (by decide) rfl ?_
          refine m_blk 135 [(0, vr 0 0), (1, vi b1), (3, vi b3), (4, vi b4)] [vi b1, vr 15 0, vi 1, vi q7.1, vi b3] C f_x_Mo_told_134_1 rfl ?_
          have k12 : b1.toNat < 6 := by omega
          refine m_aald C b1.toNat e_x_Mo_told_135 rfl rfl rfl (by decide) (by decide) c1.1 c1.2 (mz _ _) ?_
          refine m_blk 138 [(0, vr 0 0), (1, vi b1), (3, vi b3), (4, vi b4)] [vi b4, vr 35 b1.toNat, vi 1, vi q7.1, vi b3] C f_x_Mo_told_136_1 rfl ?_
          refine m_iald C e_x_Mo_told_138 rfl (k12) (by decide) c6.1 c6.2 (q7.2 35 b1.toNat b4.toNat) rfl ?_
          refine m_blk 86 [(4, vi (b4 + 1)), (3, vi (iOr b3 (iOr q7.1 (iShl 1 (q7.2 35 b1.toNat b4.toNat))))), (0, vr 0 0), (1, vi b1)] [] C f_x_Mo_told_139_6 rfl ?_
          refine m_loc [(0, vr 0 0), (1, vi b1), (3, vi (iOr b3 (iOr q7.1 (iShl 1 (q7.2 35 b1.toNat b4.toNat))))), (4, vi (b4 + 1))] ⟨rfl, rfl, rfl, rfl, trivial⟩ ?_
          exact ih q7.2 b1 (iOr b3 (iOr q7.1 (iShl 1 (q7.2 35 b1.toNat b4.toNat)))) (b4 + 1)  h
        · have h := ifp c11 h
          refine m_blk 140 [(0, vr 0 0), (1, vi b1), (3, vi b3), (4, vi b4)] [vi 0, vi q7.1, vi b3] C f_x_Mo_told_125_2 rfl ?_
          refine m_blk 86 [(4, vi (b4 + 1)), (3, vi (iOr b3 (iOr q7.1 0))), (0, vr 0 0), (1, vi b1)] [] C f_x_Mo_told_140_5 rfl ?_
          refine m_loc [(0, vr 0 0), (1, vi b1), (3, vi (iOr b3 (iOr q7.1 0))), (4, vi (b4 + 1))] ⟨rfl, rfl, rfl, rfl, trivial⟩ ?_
          exact ih q7.2 b1 (iOr b3 (iOr q7.1 0)) (b4 + 1)  h
  show JM g D ad w0 A 0 [(0, vr 0 0), (1, vi a0), (2, vi a1)] []
  unfold f_Mo_told at h
  refine m_blk 2 [(0, vr 0 0), (1, vi a0), (2, vi a1)] [vi a0, vr 0 0] C f_x_Mo_told_0_2 rfl ?_
  obtain ⟨q13, e14, h⟩ := obd h
  refine m_callV C Rm Y [vi a0] [] (x_Mo_isProgram l D B H0 ad _ a0 hS _ _ e14) cl_Mo_364 rfl (by decide) rfl rfl e_x_Mo_told_2 rfl rfl rfl ⟨by decide, by decide⟩ ?_
  rintro _ _ ⟨rfl, rfl⟩
  show JM g D ad w0 q13.2 5 [(0, vr 0 0), (1, vi a0), (2, vi a1)] [vi q13.1]
  obtain ⟨c15, h⟩ := igd h
  refine m_if_eq (tgt := 18) C e_x_Mo_told_5 (by decide) c15 (fun c16 => ?_) (fun c16 => ?_)
  · have h := ifp c16 h
    refine m_blk 20 [(0, vr 0 0), (1, vi a0), (2, vi a1)] [vi (-2)] C f_x_Mo_told_18_1 rfl ?_
    exact m_iret C Rm E e_x_Mo_told_20 (fin1 h)
  · have h := ifn c16 h
    refine m_blk 12 [(0, vr 0 0), (1, vi a0), (2, vi a1)] [vi 6, vi 0, vi a1] C f_x_Mo_told_8_3 rfl ?_
    obtain ⟨q17, e18, h⟩ := obd h
    refine m_callS C Rm Y [vi a1, vi 0, vi 6] [] (x_Mo_in l D B H0 ad _ a1 0 6 hS _ _ e18) cl_Mo_108 e_x_Mo_told_12 rfl rfl rfl ⟨by decide, by decide⟩ ?_
    rintro _ _ ⟨rfl, rfl⟩
    show JM g D ad w0 q17.2 15 [(0, vr 0 0), (1, vi a0), (2, vi a1)] [vi q17.1]
    obtain ⟨c19, h⟩ := igd h
    refine m_if_ne (tgt := 21) C e_x_Mo_told_15 (by decide) c19 (fun c20 => ?_) (fun c20 => ?_)
    · have h := ifn c20 h
      refine m_blk 22 [(0, vr 0 0), (1, vi a0), (2, vi a1)] [vi a1] C f_x_Mo_told_21_1 rfl ?_
      obtain ⟨c21, h⟩ := igd h
      refine m_if_ne (tgt := 32) C e_x_Mo_told_22 (by decide) c21 (fun c22 => ?_) (fun c22 => ?_)
      · have h := ifn c22 h
        refine m_blk 34 [(0, vr 0 0), (1, vi a0), (2, vi a1)] [vi 1, vi a1] C f_x_Mo_told_32_2 rfl ?_
        refine m_icmp_ne (tgt := 44) C e_x_Mo_told_34 (by decide) c21 (by decide) (fun c23 => ?_) (fun c23 => ?_)
        · have h := ifn c23 h
          refine m_blk 46 [(0, vr 0 0), (1, vi a0), (2, vi a1)] [vi 2, vi a1] C f_x_Mo_told_44_2 rfl ?_
          refine m_icmp_ne (tgt := 63) C e_x_Mo_told_46 (by decide) c21 (by decide) (fun c24 => ?_) (fun c24 => ?_)
          · have h := ifn c24 h
            refine m_blk 66 [(0, vr 0 0), (1, vi a0), (2, vi a1)] [vi 6, vi a1] C f_x_Mo_told_63_2 rfl ?_
            refine m_icmp_ne (tgt := 76) C e_x_Mo_told_66 (by decide) c21 (by decide) (fun c25 => ?_) (fun c25 => ?_)
            · have h := ifn c25 h
              refine m_blk 78 [(0, vr 0 0), (1, vi a0), (2, vi a1)] [vi 3, vi a1] C f_x_Mo_told_76_2 rfl ?_
              refine m_icmp_ne (tgt := 151) C e_x_Mo_told_78 (by decide) c21 (by decide) (fun c26 => ?_) (fun c26 => ?_)
              · have h := ifn c26 h
                refine m_blk 154 [(0, vr 0 0), (1, vi a0), (2, vi a1)] [vi (-1), vi a0, vr 0 0] C f_x_Mo_told_151_3 rfl ?_
                obtain ⟨q27, e28, h⟩ := obd h
                refine m_callV C Rm Y [vi a0, vi (-1)] [] (x_Mo_oddsO l D B H0 ad _ a0 (-1) hS _ _ e28) cl_Mo_367 rfl (by decide) rfl rfl e_x_Mo_told_154 rfl rfl rfl ⟨by decide, by decide⟩ ?_
                rintro _ _ ⟨rfl, rfl, g29⟩
                show JM g D ad w0 q27.2 157 [(0, vr 0 0), (1, vi a0), (2, vi a1)] [vr 1 q27.1.toNat]
                refine m_blk 160 [(3, vr 1 q27.1.toNat), (0, vr 0 0), (1, vi a0), (2, vi a1)] [vi 4, vi a1] C f_x_Mo_told_157_3 rfl ?_
                refine m_icmp_ne (tgt := 176) C e_x_Mo_told_160 (by decide) c21 (by decide) (fun c30 => ?_) (fun c30 => ?_)
                · have h := ifn c30 h
                  refine m_blk 177 [(3, vr 1 q27.1.toNat), (0, vr 0 0), (1, vi a0), (2, vi a1)] [vr 0 0] C f_x_Mo_told_176_1 rfl ?_
                  refine m_geti C e_x_Mo_told_177 fg_Mo_297 rfl (by decide) rfl (q27.2 0 0 34) rfl ?_
                  obtain ⟨c31, h⟩ := igd h
                  refine m_if_eq (tgt := 188) C e_x_Mo_told_180 (by decide) c31 (fun c32 => ?_) (fun c32 => ?_)
                  · have h := ifp c32 h
                    refine m_blk 189 [(3, vr 1 q27.1.toNat), (0, vr 0 0), (1, vi a0), (2, vi a1)] [vr 1 q27.1.toNat] C f_x_Mo_told_188_1 rfl ?_
                    refine m_getiN C e_x_Mo_told_189 fg_Mo_272 rfl (g29) rfl (q27.2 1 q27.1.toNat 2) rfl ?_
                    exact m_iret C Rm E e_x_Mo_told_192 (fin1 h)
                  · have h := ifn c32 h
                    refine m_blk 192 [(3, vr 1 q27.1.toNat), (0, vr 0 0), (1, vi a0), (2, vi a1)] [vi (-6)] C f_x_Mo_told_183_2 rfl ?_
                    exact m_iret C Rm E e_x_Mo_told_192 (fin1 h)
                · have h := ifp c30 h
                  refine m_blk 164 [(3, vr 1 q27.1.toNat), (0, vr 0 0), (1, vi a0), (2, vi a1)] [vr 0 0] C f_x_Mo_told_163_1 rfl ?_
                  refine m_geti C e_x_Mo_told_164 fg_Mo_297 rfl (by decide) rfl (q27.2 0 0 34) rfl ?_
                  obtain ⟨c33, h⟩ := igd h
                  refine m_if_eq (tgt := 174) C e_x_Mo_told_167 (by decide) c33 (fun c34 => ?_) (fun c34 => ?_)
                  · have h := ifp c34 h
                    refine m_blk 175 [(3, vr 1 q27.1.toNat), (0, vr 0 0), (1, vi a0), (2, vi a1)] [vi 0] C f_x_Mo_told_174_1 rfl ?_
                    exact m_iret C Rm E e_x_Mo_told_175 (fin1 h)
                  · have h := ifn c34 h
                    refine m_blk 175 [(3, vr 1 q27.1.toNat), (0, vr 0 0), (1, vi a0), (2, vi a1)] [vi 1] C f_x_Mo_told_170_2 rfl ?_
                    exact m_iret C Rm E e_x_Mo_told_175 (fin1 h)
              · have h := ifp c26 h
                refine m_blk 86 [(4, vi 0), (3, vi 0), (0, vr 0 0), (1, vi a0), (2, vi a1)] [] C f_x_Mo_told_81_4 rfl ?_
                refine m_loc [(0, vr 0 0), (1, vi a0), (3, vi 0), (4, vi 0)] ⟨rfl, rfl, rfl, rfl, trivial⟩ ?_
                exact hd_86 _ q17.2 a0 0 0  h
            · have h := ifp c25 h
              refine m_blk 70 [(0, vr 0 0), (1, vi a0), (2, vi a1)] [vr 0 0] C f_x_Mo_told_69_1 rfl ?_
              refine m_getr C e_x_Mo_told_70 fg_Mo_16 rfl (by decide) rfl ?_
              refine m_blk 74 [(0, vr 0 0), (1, vi a0), (2, vi a1)] [vi a0, vr 7 0] C f_x_Mo_told_73_1 rfl ?_
              obtain ⟨c35, h⟩ := igd h
              refine m_iald C e_x_Mo_told_74 rfl (by decide) (by decide) c35.1 c35.2 (q17.2 7 0 a0.toNat) rfl ?_
              exact m_iret C Rm E e_x_Mo_told_75 (fin1 h)
          · have h := ifp c24 h
            refine m_blk 51 [(0, vr 0 0), (1, vi a0), (2, vi a1)] [vi a0, vr 0 0] C f_x_Mo_told_49_2 rfl ?_
            obtain ⟨q36, e37, h⟩ := obd h
            refine m_callV C Rm Y [vi a0] [] (x_Mo_seesN 7 l D B H0 ad _ a0 hS _ _ e37) cl_Mo_303 rfl (by decide) rfl rfl e_x_Mo_told_51 rfl rfl rfl ⟨by decide, by decide⟩ ?_
            rintro _ _ ⟨rfl, rfl⟩
            show JM g D ad w0 q36.2 54 [(0, vr 0 0), (1, vi a0), (2, vi a1)] [vi q36.1]
            obtain ⟨c38, h⟩ := igd h
            refine m_if_eq (tgt := 61) C e_x_Mo_told_54 (by decide) c38 (fun c39 => ?_) (fun c39 => ?_)
            · have h := ifp c39 h
              refine m_blk 62 [(0, vr 0 0), (1, vi a0), (2, vi a1)] [vi 0] C f_x_Mo_told_61_1 rfl ?_
              exact m_iret C Rm E e_x_Mo_told_62 (fin1 h)
            · have h := ifn c39 h
              refine m_blk 62 [(0, vr 0 0), (1, vi a0), (2, vi a1)] [vi 1] C f_x_Mo_told_57_2 rfl ?_
              exact m_iret C Rm E e_x_Mo_told_62 (fin1 h)
        · have h := ifp c23 h
          refine m_blk 38 [(0, vr 0 0), (1, vi a0), (2, vi a1)] [vr 0 0] C f_x_Mo_told_37_1 rfl ?_
          refine m_getr C e_x_Mo_told_38 fg_Mo_13 rfl (by decide) rfl ?_
          refine m_blk 42 [(0, vr 0 0), (1, vi a0), (2, vi a1)] [vi a0, vr 6 0] C f_x_Mo_told_41_1 rfl ?_
          obtain ⟨c40, h⟩ := igd h
          refine m_iald C e_x_Mo_told_42 rfl (by decide) (by decide) c40.1 c40.2 (q17.2 6 0 a0.toNat) rfl ?_
          exact m_iret C Rm E e_x_Mo_told_43 (fin1 h)
      · have h := ifp c22 h
        refine m_blk 26 [(0, vr 0 0), (1, vi a0), (2, vi a1)] [vr 0 0] C f_x_Mo_told_25_1 rfl ?_
        refine m_getr C e_x_Mo_told_26 fg_Mo_9 rfl (by decide) rfl ?_
        refine m_blk 30 [(0, vr 0 0), (1, vi a0), (2, vi a1)] [vi a0, vr 5 0] C f_x_Mo_told_29_1 rfl ?_
        obtain ⟨c41, h⟩ := igd h
        refine m_iald C e_x_Mo_told_30 rfl (by decide) (by decide) c41.1 c41.2 (q17.2 5 0 a0.toNat) rfl ?_
        exact m_iret C Rm E e_x_Mo_told_31 (fin1 h)
    · have h := ifp c20 h
      refine m_blk 20 [(0, vr 0 0), (1, vi a0), (2, vi a1)] [vi (-2)] C f_x_Mo_told_18_1 rfl ?_
      exact m_iret C Rm E e_x_Mo_told_20 (fin1 h)

def f_Mo_left (A : mA) (a0 : Int) (a1 : Int) : Option (Int × mA) := (Option.bind (f_Mo_isProgram A a0) (fun q1 => (if g32 q1.1 then (if q1.1 = 0 then (some ((-4611686018427387904), q1.2)) else (Option.bind (f_Mo_in q1.2 a1 0 1) (fun q5 => (if g32 q5.1 then (if q5.1 = 0 then (some ((-4611686018427387904), q5.2)) else (Option.bind (f_Mo_oddsO q5.2 a0 (-1)) (fun q9 => (if g32 (q9.2 0 0 34) then (if (q9.2 0 0 34) = 0 then (Option.bind (f_Odds_all q9.2 q9.1.toNat) (fun q14 => (Option.bind (f_Mo_lowest q14.2 q14.1 1125899906842624 a1) (fun q16 => (some (q16.1, q16.2)))))) else (some ((-4611686018427387904), q9.2))) else none)))) else none)))) else none)))
theorem f_x_Mo_left_0_2 : mblkB b_Mo_left [(0, .aload_n 0, vi 0), (1, .iload_n 1, vi 0)] = true := by decide +kernel
theorem e_x_Mo_left_2 : decode b_Mo_left 2 = .ok (.invokevirtual 364, 3) := by decide +kernel
theorem e_x_Mo_left_5 : decode b_Mo_left 5 = .ok (.ifCond .eq 12, 3) := by decide +kernel
theorem e_x_Mo_left_17 : decode b_Mo_left 17 = .ok (.ldc2_w 370, 3) := by decide +kernel
theorem e_x_Mo_left_20 : decode b_Mo_left 20 = .ok (.lreturn, 1) := by decide +kernel
theorem f_x_Mo_left_8_3 : mblkB b_Mo_left [(8, .iload_n 2, vi 0), (9, .iconst 0, vi 0), (10, .iconst 1, vi 1)] = true := by decide +kernel
theorem e_x_Mo_left_11 : decode b_Mo_left 11 = .ok (.invokestatic 108, 3) := by decide +kernel
theorem e_x_Mo_left_14 : decode b_Mo_left 14 = .ok (.ifCond .ne 7, 3) := by decide +kernel
theorem f_x_Mo_left_21_3 : mblkB b_Mo_left [(21, .aload_n 0, vi 0), (22, .iload_n 1, vi 0), (23, .iconst (-1), vi (-1))] = true := by decide +kernel
theorem e_x_Mo_left_24 : decode b_Mo_left 24 = .ok (.invokevirtual 367, 3) := by decide +kernel
theorem f_x_Mo_left_27_2 : mblkB b_Mo_left [(27, .astore_n 3, vi 0), (28, .aload_n 0, vi 0)] = true := by decide +kernel
theorem e_x_Mo_left_29 : decode b_Mo_left 29 = .ok (.getfield 297, 3) := by decide +kernel
theorem e_x_Mo_left_32 : decode b_Mo_left 32 = .ok (.ifCond .eq 9, 3) := by decide +kernel
theorem f_x_Mo_left_41_1 : mblkB b_Mo_left [(41, .aload_n 3, vi 0)] = true := by decide +kernel
theorem e_x_Mo_left_42 : decode b_Mo_left 42 = .ok (.invokevirtual 372, 3) := by decide +kernel
theorem e_x_Mo_left_45 : decode b_Mo_left 45 = .ok (.ldc2_w 340, 3) := by decide +kernel
theorem f_x_Mo_left_48_1 : mblkB b_Mo_left [(48, .iload_n 2, vi 0)] = true := by decide +kernel
theorem e_x_Mo_left_49 : decode b_Mo_left 49 = .ok (.invokestatic 376, 3) := by decide +kernel
theorem e_x_Mo_left_52 : decode b_Mo_left 52 = .ok (.lreturn, 1) := by decide +kernel
theorem e_x_Mo_left_35 : decode b_Mo_left 35 = .ok (.ldc2_w 370, 3) := by decide +kernel
theorem f_x_Mo_left_38_1 : mblkB b_Mo_left [(38, .goto 14, vi 52)] = true := by decide +kernel
set_option maxHeartbeats 4000000 in
set_option maxRecDepth 20000 in
theorem x_Mo_left  : ∀ (l : Launch) (D : va_G) (B : Nat) (H0 : Heap) (ad : mAd) (A : mA) (a0 : Int) (a1 : Int) (hS : mStr D ad) (r9 : Int) (A9 : mA), f_Mo_left  A a0 a1 = some (r9, A9) → mMet l D B H0 ad y_Mo_left b_Mo_left 4 (some .long) 1083 35675 [vr 0 0, vi a0, vi a1] A (fun v A' => v = some (vl r9) ∧ A' = A9) := by
  intro l D B H0 ad A a0 a1  hS r9 A9 h
  refine m_met (by decide) rfl (fun g w0 C Rm Y E => ?_)
  show JM g D ad w0 A 0 [(0, vr 0 0), (1, vi a0), (2, vi a1)] []
  unfold f_Mo_left at h
  refine m_blk 2 [(0, vr 0 0), (1, vi a0), (2, vi a1)] [vi a0, vr 0 0] C f_x_Mo_left_0_2 rfl ?_
  obtain ⟨q1, e2, h⟩ := obd h
  refine m_callV C Rm Y [vi a0] [] (x_Mo_isProgram l D B H0 ad _ a0 hS _ _ e2) cl_Mo_364 rfl (by decide) rfl rfl e_x_Mo_left_2 rfl rfl rfl ⟨by decide, by decide⟩ ?_
  rintro _ _ ⟨rfl, rfl⟩
  show JM g D ad w0 q1.2 5 [(0, vr 0 0), (1, vi a0), (2, vi a1)] [vi q1.1]
  obtain ⟨c3, h⟩ := igd h
  refine m_if_eq (tgt := 17) C e_x_Mo_left_5 (by decide) c3 (fun c4 => ?_) (fun c4 => ?_)
  · have h := ifp c4 h
    refine m_ldc2 C (-4611686018427387904) e_x_Mo_left_17 ld_Mo_370 (by decide) ?_
    exact m_lret C Rm E e_x_Mo_left_20 (finL h)
  · have h := ifn c4 h
    refine m_blk 11 [(0, vr 0 0), (1, vi a0), (2, vi a1)] [vi 1, vi 0, vi a1] C f_x_Mo_left_8_3 rfl ?_
    obtain ⟨q5, e6, h⟩ := obd h
    refine m_callS C Rm Y [vi a1, vi 0, vi 1] [] (x_Mo_in l D B H0 ad _ a1 0 1 hS _ _ e6) cl_Mo_108 e_x_Mo_left_11 rfl rfl rfl ⟨by decide, by decide⟩ ?_
    rintro _ _ ⟨rfl, rfl⟩
    show JM g D ad w0 q5.2 14 [(0, vr 0 0), (1, vi a0), (2, vi a1)] [vi q5.1]
    obtain ⟨c7, h⟩ := igd h
    refine m_if_ne (tgt := 21) C e_x_Mo_left_14 (by decide) c7 (fun c8 => ?_) (fun c8 => ?_)
    · have h := ifn c8 h
      refine m_blk 24 [(0, vr 0 0), (1, vi a0), (2, vi a1)] [vi (-1), vi a0, vr 0 0] C f_x_Mo_left_21_3 rfl ?_
      obtain ⟨q9, e10, h⟩ := obd h
      refine m_callV C Rm Y [vi a0, vi (-1)] [] (x_Mo_oddsO l D B H0 ad _ a0 (-1) hS _ _ e10) cl_Mo_367 rfl (by decide) rfl rfl e_x_Mo_left_24 rfl rfl rfl ⟨by decide, by decide⟩ ?_
      rintro _ _ ⟨rfl, rfl, g11⟩
      show JM g D ad w0 q9.2 27 [(0, vr 0 0), (1, vi a0), (2, vi a1)] [vr 1 q9.1.toNat]
      refine m_blk 29 [(3, vr 1 q9.1.toNat), (0, vr 0 0), (1, vi a0), (2, vi a1)] [vr 0 0] C f_x_Mo_left_27_2 rfl ?_
      refine m_geti C e_x_Mo_left_29 fg_Mo_297 rfl (by decide) rfl (q9.2 0 0 34) rfl ?_
      obtain ⟨c12, h⟩ := igd h
      refine m_if_eq (tgt := 41) C e_x_Mo_left_32 (by decide) c12 (fun c13 => ?_) (fun c13 => ?_)
      · have h := ifp c13 h
        refine m_blk 42 [(3, vr 1 q9.1.toNat), (0, vr 0 0), (1, vi a0), (2, vi a1)] [vr 1 q9.1.toNat] C f_x_Mo_left_41_1 rfl ?_
        obtain ⟨q14, e15, h⟩ := obd h
        refine m_callV C Rm Y [] [] (x_Odds_all l D B H0 ad _ q9.1.toNat (g11) hS _ _ e15) cl_Mo_372 rfl (g11) rfl rfl e_x_Mo_left_42 rfl rfl rfl ⟨by decide, by decide⟩ ?_
        rintro _ _ ⟨rfl, rfl⟩
        show JM g D ad w0 q14.2 45 [(3, vr 1 q9.1.toNat), (0, vr 0 0), (1, vi a0), (2, vi a1)] [vl q14.1]
        refine m_ldc2 C 1125899906842624 e_x_Mo_left_45 ld_Mo_340 (by decide) ?_
        refine m_blk 49 [(3, vr 1 q9.1.toNat), (0, vr 0 0), (1, vi a0), (2, vi a1)] [vi a1, vl 1125899906842624, vl q14.1] C f_x_Mo_left_48_1 rfl ?_
        obtain ⟨q16, e17, h⟩ := obd h
        refine m_callS C Rm Y [vl q14.1, vl 1125899906842624, vi a1] [] (x_Mo_lowest l D B H0 ad _ q14.1 1125899906842624 a1 hS _ _ e17) cl_Mo_376 e_x_Mo_left_49 rfl rfl rfl ⟨by decide, by decide⟩ ?_
        rintro _ _ ⟨rfl, rfl⟩
        show JM g D ad w0 q16.2 52 [(3, vr 1 q9.1.toNat), (0, vr 0 0), (1, vi a0), (2, vi a1)] [vl q16.1]
        exact m_lret C Rm E e_x_Mo_left_52 (finL h)
      · have h := ifn c13 h
        refine m_ldc2 C (-4611686018427387904) e_x_Mo_left_35 ld_Mo_370 (by decide) ?_
        refine m_blk 52 [(3, vr 1 q9.1.toNat), (0, vr 0 0), (1, vi a0), (2, vi a1)] [vl (-4611686018427387904)] C f_x_Mo_left_38_1 rfl ?_
        exact m_lret C Rm E e_x_Mo_left_52 (finL h)
    · have h := ifp c8 h
      refine m_ldc2 C (-4611686018427387904) e_x_Mo_left_17 ld_Mo_370 (by decide) ?_
      exact m_lret C Rm E e_x_Mo_left_20 (finL h)

def f_Mo_odds (A : mA) (a0 : Int) (a1 : Int) (a2 : Int) (a3 : Int) : Option (Int × mA) := (Option.bind (f_Mo_isProgram A a0) (fun q1 => (if g32 q1.1 then (if q1.1 = 0 then (some ((-4611686018427387904), q1.2)) else (Option.bind (f_Mo_isName q1.2 a1) (fun q5 => (if g32 q5.1 then (if q5.1 = 0 then (some ((-4611686018427387904), q5.2)) else (Option.bind (f_Mo_in q5.2 a2 0 9) (fun q9 => (if g32 q9.1 then (if q9.1 = 0 then (some ((-4611686018427387904), q9.2)) else (Option.bind (f_Mo_in q9.2 a3 0 1) (fun q13 => (if g32 q13.1 then (if q13.1 = 0 then (some ((-4611686018427387904), q13.2)) else (Option.bind (f_Mo_oddsO q13.2 a0 (-1)) (fun q17 => (Option.bind (f_Mo_against q17.2 q17.1.toNat) (fun q20 => (if g32 q20.1 then (if q20.1 = 0 then (Option.bind (f_Mo_weightOf q20.2 q17.1.toNat a1 a2) (fun q24 => (Option.bind (f_Odds_all q24.2 q17.1.toNat) (fun q26 => (Option.bind (f_Mo_lowest q26.2 q24.1 q26.1 a3) (fun q28 => (some (q28.1, q28.2)))))))) else (some ((-4611686018427387904), q20.2))) else none)))))) else none)))) else none)))) else none)))) else none)))
theorem f_x_Mo_odds_0_2 : mblkB b_Mo_odds_1 [(0, .aload_n 0, vi 0), (1, .iload_n 1, vi 0)] = true := by decide +kernel
theorem e_x_Mo_odds_2 : decode b_Mo_odds_1 2 = .ok (.invokevirtual 364, 3) := by decide +kernel
theorem e_x_Mo_odds_5 : decode b_Mo_odds_1 5 = .ok (.ifCond .eq 30, 3) := by decide +kernel
theorem e_x_Mo_odds_35 : decode b_Mo_odds_1 35 = .ok (.ldc2_w 370, 3) := by decide +kernel
theorem e_x_Mo_odds_38 : decode b_Mo_odds_1 38 = .ok (.lreturn, 1) := by decide +kernel
theorem f_x_Mo_odds_8_1 : mblkB b_Mo_odds_1 [(8, .iload_n 2, vi 0)] = true := by decide +kernel
theorem e_x_Mo_odds_9 : decode b_Mo_odds_1 9 = .ok (.invokestatic 254, 3) := by decide +kernel
theorem e_x_Mo_odds_12 : decode b_Mo_odds_1 12 = .ok (.ifCond .eq 23, 3) := by decide +kernel
theorem f_x_Mo_odds_15_3 : mblkB b_Mo_odds_1 [(15, .iload_n 3, vi 0), (16, .iconst 0, vi 0), (17, .bipush 9, vi 9)] = true := by decide +kernel
theorem e_x_Mo_odds_19 : decode b_Mo_odds_1 19 = .ok (.invokestatic 108, 3) := by decide +kernel
theorem e_x_Mo_odds_22 : decode b_Mo_odds_1 22 = .ok (.ifCond .eq 13, 3) := by decide +kernel
theorem f_x_Mo_odds_25_3 : mblkB b_Mo_odds_1 [(25, .iload 4, vi 0), (27, .iconst 0, vi 0), (28, .iconst 1, vi 1)] = true := by decide +kernel
theorem e_x_Mo_odds_29 : decode b_Mo_odds_1 29 = .ok (.invokestatic 108, 3) := by decide +kernel
theorem e_x_Mo_odds_32 : decode b_Mo_odds_1 32 = .ok (.ifCond .ne 7, 3) := by decide +kernel
theorem f_x_Mo_odds_39_3 : mblkB b_Mo_odds_1 [(39, .aload_n 0, vi 0), (40, .iload_n 1, vi 0), (41, .iconst (-1), vi (-1))] = true := by decide +kernel
theorem e_x_Mo_odds_42 : decode b_Mo_odds_1 42 = .ok (.invokevirtual 367, 3) := by decide +kernel
theorem f_x_Mo_odds_45_3 : mblkB b_Mo_odds_1 [(45, .astore 5, vi 0), (47, .aload_n 0, vi 0), (48, .aload 5, vi 0)] = true := by decide +kernel
theorem e_x_Mo_odds_50 : decode b_Mo_odds_1 50 = .ok (.invokevirtual 380, 3) := by decide +kernel
theorem e_x_Mo_odds_53 : decode b_Mo_odds_1 53 = .ok (.ifCond .eq 9, 3) := by decide +kernel
theorem f_x_Mo_odds_62_3 : mblkB b_Mo_odds_1 [(62, .aload 5, vi 0), (64, .iload_n 2, vi 0), (65, .iload_n 3, vi 0)] = true := by decide +kernel
theorem e_x_Mo_odds_66 : decode b_Mo_odds_1 66 = .ok (.invokestatic 384, 3) := by decide +kernel
theorem f_x_Mo_odds_69_1 : mblkB b_Mo_odds_1 [(69, .aload 5, vi 0)] = true := by decide +kernel
theorem e_x_Mo_odds_71 : decode b_Mo_odds_1 71 = .ok (.invokevirtual 372, 3) := by decide +kernel
theorem f_x_Mo_odds_74_1 : mblkB b_Mo_odds_1 [(74, .iload 4, vi 0)] = true := by decide +kernel
theorem e_x_Mo_odds_76 : decode b_Mo_odds_1 76 = .ok (.invokestatic 376, 3) := by decide +kernel
theorem e_x_Mo_odds_79 : decode b_Mo_odds_1 79 = .ok (.lreturn, 1) := by decide +kernel
theorem e_x_Mo_odds_56 : decode b_Mo_odds_1 56 = .ok (.ldc2_w 370, 3) := by decide +kernel
theorem f_x_Mo_odds_59_1 : mblkB b_Mo_odds_1 [(59, .goto 20, vi 79)] = true := by decide +kernel
set_option maxHeartbeats 4000000 in
set_option maxRecDepth 20000 in
theorem x_Mo_odds  : ∀ (l : Launch) (D : va_G) (B : Nat) (H0 : Heap) (ad : mAd) (A : mA) (a0 : Int) (a1 : Int) (a2 : Int) (a3 : Int) (hS : mStr D ad) (r9 : Int) (A9 : mA), f_Mo_odds  A a0 a1 a2 a3 = some (r9, A9) → mMet l D B H0 ad y_Mo_odds_1 b_Mo_odds_1 6 (some .long) 1083 35675 [vr 0 0, vi a0, vi a1, vi a2, vi a3] A (fun v A' => v = some (vl r9) ∧ A' = A9) := by
  intro l D B H0 ad A a0 a1 a2 a3  hS r9 A9 h
  refine m_met (by decide) rfl (fun g w0 C Rm Y E => ?_)
  show JM g D ad w0 A 0 [(0, vr 0 0), (1, vi a0), (2, vi a1), (3, vi a2), (4, vi a3)] []
  unfold f_Mo_odds at h
  refine m_blk 2 [(0, vr 0 0), (1, vi a0), (2, vi a1), (3, vi a2), (4, vi a3)] [vi a0, vr 0 0] C f_x_Mo_odds_0_2 rfl ?_
  obtain ⟨q1, e2, h⟩ := obd h
  refine m_callV C Rm Y [vi a0] [] (x_Mo_isProgram l D B H0 ad _ a0 hS _ _ e2) cl_Mo_364 rfl (by decide) rfl rfl e_x_Mo_odds_2 rfl rfl rfl ⟨by decide, by decide⟩ ?_
  rintro _ _ ⟨rfl, rfl⟩
  show JM g D ad w0 q1.2 5 [(0, vr 0 0), (1, vi a0), (2, vi a1), (3, vi a2), (4, vi a3)] [vi q1.1]
  obtain ⟨c3, h⟩ := igd h
  refine m_if_eq (tgt := 35) C e_x_Mo_odds_5 (by decide) c3 (fun c4 => ?_) (fun c4 => ?_)
  · have h := ifp c4 h
    refine m_ldc2 C (-4611686018427387904) e_x_Mo_odds_35 ld_Mo_370 (by decide) ?_
    exact m_lret C Rm E e_x_Mo_odds_38 (finL h)
  · have h := ifn c4 h
    refine m_blk 9 [(0, vr 0 0), (1, vi a0), (2, vi a1), (3, vi a2), (4, vi a3)] [vi a1] C f_x_Mo_odds_8_1 rfl ?_
    obtain ⟨q5, e6, h⟩ := obd h
    refine m_callS C Rm Y [vi a1] [] (x_Mo_isName l D B H0 ad _ a1 hS _ _ e6) cl_Mo_254 e_x_Mo_odds_9 rfl rfl rfl ⟨by decide, by decide⟩ ?_
    rintro _ _ ⟨rfl, rfl⟩
    show JM g D ad w0 q5.2 12 [(0, vr 0 0), (1, vi a0), (2, vi a1), (3, vi a2), (4, vi a3)] [vi q5.1]
    obtain ⟨c7, h⟩ := igd h
    refine m_if_eq (tgt := 35) C e_x_Mo_odds_12 (by decide) c7 (fun c8 => ?_) (fun c8 => ?_)
    · have h := ifp c8 h
      refine m_ldc2 C (-4611686018427387904) e_x_Mo_odds_35 ld_Mo_370 (by decide) ?_
      exact m_lret C Rm E e_x_Mo_odds_38 (finL h)
    · have h := ifn c8 h
      refine m_blk 19 [(0, vr 0 0), (1, vi a0), (2, vi a1), (3, vi a2), (4, vi a3)] [vi 9, vi 0, vi a2] C f_x_Mo_odds_15_3 rfl ?_
      obtain ⟨q9, e10, h⟩ := obd h
      refine m_callS C Rm Y [vi a2, vi 0, vi 9] [] (x_Mo_in l D B H0 ad _ a2 0 9 hS _ _ e10) cl_Mo_108 e_x_Mo_odds_19 rfl rfl rfl ⟨by decide, by decide⟩ ?_
      rintro _ _ ⟨rfl, rfl⟩
      show JM g D ad w0 q9.2 22 [(0, vr 0 0), (1, vi a0), (2, vi a1), (3, vi a2), (4, vi a3)] [vi q9.1]
      obtain ⟨c11, h⟩ := igd h
      refine m_if_eq (tgt := 35) C e_x_Mo_odds_22 (by decide) c11 (fun c12 => ?_) (fun c12 => ?_)
      · have h := ifp c12 h
        refine m_ldc2 C (-4611686018427387904) e_x_Mo_odds_35 ld_Mo_370 (by decide) ?_
        exact m_lret C Rm E e_x_Mo_odds_38 (finL h)
      · have h := ifn c12 h
        refine m_blk 29 [(0, vr 0 0), (1, vi a0), (2, vi a1), (3, vi a2), (4, vi a3)] [vi 1, vi 0, vi a3] C f_x_Mo_odds_25_3 rfl ?_
        obtain ⟨q13, e14, h⟩ := obd h
        refine m_callS C Rm Y [vi a3, vi 0, vi 1] [] (x_Mo_in l D B H0 ad _ a3 0 1 hS _ _ e14) cl_Mo_108 e_x_Mo_odds_29 rfl rfl rfl ⟨by decide, by decide⟩ ?_
        rintro _ _ ⟨rfl, rfl⟩
        show JM g D ad w0 q13.2 32 [(0, vr 0 0), (1, vi a0), (2, vi a1), (3, vi a2), (4, vi a3)] [vi q13.1]
        obtain ⟨c15, h⟩ := igd h
        refine m_if_ne (tgt := 39) C e_x_Mo_odds_32 (by decide) c15 (fun c16 => ?_) (fun c16 => ?_)
        · have h := ifn c16 h
          refine m_blk 42 [(0, vr 0 0), (1, vi a0), (2, vi a1), (3, vi a2), (4, vi a3)] [vi (-1), vi a0, vr 0 0] C f_x_Mo_odds_39_3 rfl ?_
          obtain ⟨q17, e18, h⟩ := obd h
          refine m_callV C Rm Y [vi a0, vi (-1)] [] (x_Mo_oddsO l D B H0 ad _ a0 (-1) hS _ _ e18) cl_Mo_367 rfl (by decide) rfl rfl e_x_Mo_odds_42 rfl rfl rfl ⟨by decide, by decide⟩ ?_
          rintro _ _ ⟨rfl, rfl, g19⟩
          show JM g D ad w0 q17.2 45 [(0, vr 0 0), (1, vi a0), (2, vi a1), (3, vi a2), (4, vi a3)] [vr 1 q17.1.toNat]
          refine m_blk 50 [(5, vr 1 q17.1.toNat), (0, vr 0 0), (1, vi a0), (2, vi a1), (3, vi a2), (4, vi a3)] [vr 1 q17.1.toNat, vr 0 0] C f_x_Mo_odds_45_3 rfl ?_
          obtain ⟨q20, e21, h⟩ := obd h
          refine m_callV C Rm Y [vr 1 q17.1.toNat] [] (x_Mo_against l D B H0 ad _ q17.1.toNat (g19) hS _ _ e21) cl_Mo_380 rfl (by decide) rfl rfl e_x_Mo_odds_50 rfl rfl rfl ⟨by decide, by decide⟩ ?_
          rintro _ _ ⟨rfl, rfl⟩
          show JM g D ad w0 q20.2 53 [(5, vr 1 q17.1.toNat), (0, vr 0 0), (1, vi a0), (2, vi a1), (3, vi a2), (4, vi a3)] [vi q20.1]
          obtain ⟨c22, h⟩ := igd h
          refine m_if_eq (tgt := 62) C e_x_Mo_odds_53 (by decide) c22 (fun c23 => ?_) (fun c23 => ?_)
          · have h := ifp c23 h
            refine m_blk 66 [(5, vr 1 q17.1.toNat), (0, vr 0 0), (1, vi a0), (2, vi a1), (3, vi a2), (4, vi a3)] [vi a2, vi a1, vr 1 q17.1.toNat] C f_x_Mo_odds_62_3 rfl ?_
            obtain ⟨q24, e25, h⟩ := obd h
            refine m_callS C Rm Y [vr 1 q17.1.toNat, vi a1, vi a2] [] (x_Mo_weightOf l D B H0 ad _ q17.1.toNat a1 a2 (g19) hS _ _ e25) cl_Mo_384 e_x_Mo_odds_66 rfl rfl rfl ⟨by decide, by decide⟩ ?_
            rintro _ _ ⟨rfl, rfl⟩
            show JM g D ad w0 q24.2 69 [(5, vr 1 q17.1.toNat), (0, vr 0 0), (1, vi a0), (2, vi a1), (3, vi a2), (4, vi a3)] [vl q24.1]
            refine m_blk 71 [(5, vr 1 q17.1.toNat), (0, vr 0 0), (1, vi a0), (2, vi a1), (3, vi a2), (4, vi a3)] [vr 1 q17.1.toNat, vl q24.1] C f_x_Mo_odds_69_1 rfl ?_
            obtain ⟨q26, e27, h⟩ := obd h
            refine m_callV C Rm Y [] [vl q24.1] (x_Odds_all l D B H0 ad _ q17.1.toNat (g19) hS _ _ e27) cl_Mo_372 rfl (g19) rfl rfl e_x_Mo_odds_71 rfl rfl rfl ⟨by decide, by decide⟩ ?_
            rintro _ _ ⟨rfl, rfl⟩
            show JM g D ad w0 q26.2 74 [(5, vr 1 q17.1.toNat), (0, vr 0 0), (1, vi a0), (2, vi a1), (3, vi a2), (4, vi a3)] [vl q26.1, vl q24.1]
            refine m_blk 76 [(5, vr 1 q17.1.toNat), (0, vr 0 0), (1, vi a0), (2, vi a1), (3, vi a2), (4, vi a3)] [vi a3, vl q26.1, vl q24.1] C f_x_Mo_odds_74_1 rfl ?_
            obtain ⟨q28, e29, h⟩ := obd h
            refine m_callS C Rm Y [vl q24.1, vl q26.1, vi a3] [] (x_Mo_lowest l D B H0 ad _ q24.1 q26.1 a3 hS _ _ e29) cl_Mo_376 e_x_Mo_odds_76 rfl rfl rfl ⟨by decide, by decide⟩ ?_
            rintro _ _ ⟨rfl, rfl⟩
            show JM g D ad w0 q28.2 79 [(5, vr 1 q17.1.toNat), (0, vr 0 0), (1, vi a0), (2, vi a1), (3, vi a2), (4, vi a3)] [vl q28.1]
            exact m_lret C Rm E e_x_Mo_odds_79 (finL h)
          · have h := ifn c23 h
            refine m_ldc2 C (-4611686018427387904) e_x_Mo_odds_56 ld_Mo_370 (by decide) ?_
            refine m_blk 79 [(5, vr 1 q17.1.toNat), (0, vr 0 0), (1, vi a0), (2, vi a1), (3, vi a2), (4, vi a3)] [vl (-4611686018427387904)] C f_x_Mo_odds_59_1 rfl ?_
            exact m_lret C Rm E e_x_Mo_odds_79 (finL h)
        · have h := ifp c16 h
          refine m_ldc2 C (-4611686018427387904) e_x_Mo_odds_35 ld_Mo_370 (by decide) ?_
          exact m_lret C Rm E e_x_Mo_odds_38 (finL h)

def f_Mo_state_59 : Nat → mA → Int → Int → Nat → Int → Int → Option (Int × mA)
  | 0, _, _, _, _, _, _ => none
  | n + 1, A, b2, b3, b4, b5, b7 => (if g32 b7 then if g32 (A 1 b4 2) then (if (A 1 b4 2) ≤ b7 then (Option.bind (f_Odds_all A b4) (fun q4 => (Option.bind (f_Mo_lowest q4.2 b5 q4.1 b3) (fun q6 => (some (q6.1, q6.2)))))) else (if (0 ≤ b7 ∧ b7 < ((301 : Nat) : Int)) then (if g32 (A 3 b4 b7.toNat) then if g32 b2 then (if (A 3 b4 b7.toNat) = b2 then (f_Mo_state_59  n A b2 b3 b4 (A 4 b4 b7.toNat) (b7 + 1)) else (f_Mo_state_59  n A b2 b3 b4 b5 (b7 + 1))) else none else none) else none)) else none else none)
def f_Mo_state (A : mA) (a0 : Int) (a1 : Int) (a2 : Int) : Option (Int × mA) := (Option.bind (f_Mo_isProgram A a0) (fun q12 => (if g32 q12.1 then (if q12.1 = 0 then (some ((-4611686018427387904), q12.2)) else (Option.bind (f_Mo_in q12.2 a1 0 999999) (fun q16 => (if g32 q16.1 then (if q16.1 = 0 then (some ((-4611686018427387904), q16.2)) else (Option.bind (f_Mo_in q16.2 a2 0 1) (fun q20 => (if g32 q20.1 then (if q20.1 = 0 then (some ((-4611686018427387904), q20.2)) else (Option.bind (f_Mo_oddsO q20.2 a0 (-1)) (fun q24 => (Option.bind (f_Mo_against q24.2 q24.1.toNat) (fun q27 => (if g32 q27.1 then (if q27.1 = 0 then (f_Mo_state_59  310 q27.2 a1 a2 q24.1.toNat 0 0) else (some ((-4611686018427387904), q27.2))) else none)))))) else none)))) else none)))) else none)))
theorem f_x_Mo_state_0_2 : mblkB b_Mo_state [(0, .aload_n 0, vi 0), (1, .iload_n 1, vi 0)] = true := by decide +kernel
theorem e_x_Mo_state_2 : decode b_Mo_state 2 = .ok (.invokevirtual 364, 3) := by decide +kernel
theorem e_x_Mo_state_5 : decode b_Mo_state 5 = .ok (.ifCond .eq 23, 3) := by decide +kernel
theorem e_x_Mo_state_28 : decode b_Mo_state 28 = .ok (.ldc2_w 370, 3) := by decide +kernel
theorem e_x_Mo_state_31 : decode b_Mo_state 31 = .ok (.lreturn, 1) := by decide +kernel
theorem f_x_Mo_state_8_2 : mblkB b_Mo_state [(8, .iload_n 2, vi 0), (9, .iconst 0, vi 0)] = true := by decide +kernel
theorem e_x_Mo_state_10 : decode b_Mo_state 10 = .ok (.ldc_w 388, 3) := by decide +kernel
theorem e_x_Mo_state_13 : decode b_Mo_state 13 = .ok (.invokestatic 108, 3) := by decide +kernel
theorem e_x_Mo_state_16 : decode b_Mo_state 16 = .ok (.ifCond .eq 12, 3) := by decide +kernel
theorem f_x_Mo_state_19_3 : mblkB b_Mo_state [(19, .iload_n 3, vi 0), (20, .iconst 0, vi 0), (21, .iconst 1, vi 1)] = true := by decide +kernel
theorem e_x_Mo_state_22 : decode b_Mo_state 22 = .ok (.invokestatic 108, 3) := by decide +kernel
theorem e_x_Mo_state_25 : decode b_Mo_state 25 = .ok (.ifCond .ne 7, 3) := by decide +kernel
theorem f_x_Mo_state_32_3 : mblkB b_Mo_state [(32, .aload_n 0, vi 0), (33, .iload_n 1, vi 0), (34, .iconst (-1), vi (-1))] = true := by decide +kernel
theorem e_x_Mo_state_35 : decode b_Mo_state 35 = .ok (.invokevirtual 367, 3) := by decide +kernel
theorem f_x_Mo_state_38_3 : mblkB b_Mo_state [(38, .astore 4, vi 0), (40, .aload_n 0, vi 0), (41, .aload 4, vi 0)] = true := by decide +kernel
theorem e_x_Mo_state_43 : decode b_Mo_state 43 = .ok (.invokevirtual 380, 3) := by decide +kernel
theorem e_x_Mo_state_46 : decode b_Mo_state 46 = .ok (.ifCond .eq 7, 3) := by decide +kernel
theorem f_x_Mo_state_53_4 : mblkB b_Mo_state [(53, .lconst 0, vl 0), (54, .lstore 5, vi 0), (56, .iconst 0, vi 0), (57, .istore 7, vi 0)] = true := by decide +kernel
theorem e_x_Mo_state_49 : decode b_Mo_state 49 = .ok (.ldc2_w 370, 3) := by decide +kernel
theorem e_x_Mo_state_52 : decode b_Mo_state 52 = .ok (.lreturn, 1) := by decide +kernel
theorem f_x_Mo_state_59_2 : mblkB b_Mo_state [(59, .iload 7, vi 0), (61, .aload 4, vi 0)] = true := by decide +kernel
theorem e_x_Mo_state_63 : decode b_Mo_state 63 = .ok (.getfield 272, 3) := by decide +kernel
theorem e_x_Mo_state_66 : decode b_Mo_state 66 = .ok (.if_icmp .ge 31, 3) := by decide +kernel
theorem f_x_Mo_state_97_2 : mblkB b_Mo_state [(97, .lload 5, vi 0), (99, .aload 4, vi 0)] = true := by decide +kernel
theorem e_x_Mo_state_101 : decode b_Mo_state 101 = .ok (.invokevirtual 372, 3) := by decide +kernel
theorem f_x_Mo_state_104_1 : mblkB b_Mo_state [(104, .iload_n 3, vi 0)] = true := by decide +kernel
theorem e_x_Mo_state_105 : decode b_Mo_state 105 = .ok (.invokestatic 376, 3) := by decide +kernel
theorem e_x_Mo_state_108 : decode b_Mo_state 108 = .ok (.lreturn, 1) := by decide +kernel
theorem f_x_Mo_state_69_1 : mblkB b_Mo_state [(69, .aload 4, vi 0)] = true := by decide +kernel
theorem e_x_Mo_state_71 : decode b_Mo_state 71 = .ok (.getfield 279, 3) := by decide +kernel
theorem f_x_Mo_state_74_1 : mblkB b_Mo_state [(74, .iload 7, vi 0)] = true := by decide +kernel
theorem e_x_Mo_state_76 : decode b_Mo_state 76 = .ok (.iaload, 1) := by decide +kernel
theorem f_x_Mo_state_77_1 : mblkB b_Mo_state [(77, .iload_n 2, vi 0)] = true := by decide +kernel
theorem e_x_Mo_state_78 : decode b_Mo_state 78 = .ok (.if_icmp .ne 13, 3) := by decide +kernel
theorem f_x_Mo_state_91_2 : mblkB b_Mo_state [(91, .iinc 7 1, vi 1), (94, .goto (-35), vi 59)] = true := by decide +kernel
theorem f_x_Mo_state_81_1 : mblkB b_Mo_state [(81, .aload 4, vi 0)] = true := by decide +kernel
theorem e_x_Mo_state_83 : decode b_Mo_state 83 = .ok (.getfield 285, 3) := by decide +kernel
theorem f_x_Mo_state_86_1 : mblkB b_Mo_state [(86, .iload 7, vi 0)] = true := by decide +kernel
theorem e_x_Mo_state_88 : decode b_Mo_state 88 = .ok (.laload, 1) := by decide +kernel
theorem f_x_Mo_state_89_3 : mblkB b_Mo_state [(89, .lstore 5, vi 0), (91, .iinc 7 1, vi 1), (94, .goto (-35), vi 59)] = true := by decide +kernel
set_option maxHeartbeats 4000000 in
set_option maxRecDepth 20000 in
theorem x_Mo_state  : ∀ (l : Launch) (D : va_G) (B : Nat) (H0 : Heap) (ad : mAd) (A : mA) (a0 : Int) (a1 : Int) (a2 : Int) (hS : mStr D ad) (r9 : Int) (A9 : mA), f_Mo_state  A a0 a1 a2 = some (r9, A9) → mMet l D B H0 ad y_Mo_state b_Mo_state 8 (some .long) 1083 35675 [vr 0 0, vi a0, vi a1, vi a2] A (fun v A' => v = some (vl r9) ∧ A' = A9) := by
  intro l D B H0 ad A a0 a1 a2  hS r9 A9 h
  refine m_met (by decide) rfl (fun g w0 C Rm Y E => ?_)
  have hd_59 : ∀ (n : Nat) (A : mA) (b2 : Int) (b3 : Int) (b4 : Nat) (b5 : Int) (b7 : Int) , b4 < 200 → f_Mo_state_59  n A b2 b3 b4 b5 b7 = some (r9, A9) → JM g D ad w0 A 59 [(2, vi b2), (3, vi b3), (4, vr 1 b4), (5, vl b5), (7, vi b7)] [] := by
    intro n
    induction n with
    | zero => intro A b2 b3 b4 b5 b7 h_b4 h; cases h
    | succ n ih =>
      intro A b2 b3 b4 b5 b7 h_b4 h
      unfold f_Mo_state_59 at h
      refine m_blk 63 [(2, vi b2), (3, vi b3), (4, vr 1 b4), (5, vl b5), (7, vi b7)] [vr 1 b4, vi b7] C f_x_Mo_state_59_2 rfl ?_
      refine m_getiN C e_x_Mo_state_63 fg_Mo_272 rfl (h_b4) rfl (A 1 b4 2) rfl ?_
      obtain ⟨c1, h⟩ := igd h
      obtain ⟨c2, h⟩ := igd h
      refine m_icmp_ge (tgt := 97) C e_x_Mo_state_66 (by decide) c1 c2 (fun c3 => ?_) (fun c3 => ?_)
      · have h := ifp c3 h
        refine m_blk 101 [(2, vi b2), (3, vi b3), (4, vr 1 b4), (5, vl b5), (7, vi b7)] [vr 1 b4, vl b5] C f_x_Mo_state_97_2 rfl ?_
        obtain ⟨q4, e5, h⟩ := obd h
        refine m_callV C Rm Y [] [vl b5] (x_Odds_all l D B H0 ad _ b4 (h_b4) hS _ _ e5) cl_Mo_372 rfl (h_b4) rfl rfl e_x_Mo_state_101 rfl rfl rfl ⟨by decide, by decide⟩ ?_
        rintro _ _ ⟨rfl, rfl⟩
        show JM g D ad w0 q4.2 104 [(2, vi b2), (3, vi b3), (4, vr 1 b4), (5, vl b5), (7, vi b7)] [vl q4.1, vl b5]
        refine m_blk 105 [(2, vi b2), (3, vi b3), (4, vr 1 b4), (5, vl b5), (7, vi b7)] [vi b3, vl q4.1, vl b5] C f_x_Mo_state_104_1 rfl ?_
        obtain ⟨q6, e7, h⟩ := obd h
        refine m_callS C Rm Y [vl b5, vl q4.1, vi b3] [] (x_Mo_lowest l D B H0 ad _ b5 q4.1 b3 hS _ _ e7) cl_Mo_376 e_x_Mo_state_105 rfl rfl rfl ⟨by decide, by decide⟩ ?_
        rintro _ _ ⟨rfl, rfl⟩
        show JM g D ad w0 q6.2 108 [(2, vi b2), (3, vi b3), (4, vr 1 b4), (5, vl b5), (7, vi b7)] [vl q6.1]
        exact m_lret C Rm E e_x_Mo_state_108 (finL h)
      · have h := ifn c3 h
        refine m_blk 71 [(2, vi b2), (3, vi b3), (4, vr 1 b4), (5, vl b5), (7, vi b7)] [vr 1 b4] C f_x_Mo_state_69_1 rfl ?_
        refine m_getrN C e_x_Mo_state_71 fg_Mo_279 rfl (h_b4) rfl ?_
        refine m_blk 76 [(2, vi b2), (3, vi b3), (4, vr 1 b4), (5, vl b5), (7, vi b7)] [vi b7, vr 3 b4] C f_x_Mo_state_74_1 rfl ?_
        obtain ⟨c8, h⟩ := igd h
        refine m_iald C e_x_Mo_state_76 rfl (h_b4) (by decide) c8.1 c8.2 (A 3 b4 b7.toNat) rfl ?_
        refine m_blk 78 [(2, vi b2), (3, vi b3), (4, vr 1 b4), (5, vl b5), (7, vi b7)] [vi b2, vi (A 3 b4 b7.toNat)] C f_x_Mo_state_77_1 rfl ?_
        obtain ⟨c9, h⟩ := igd h
        obtain ⟨c10, h⟩ := igd h
        refine m_icmp_ne (tgt := 91) C e_x_Mo_state_78 (by decide) c9 c10 (fun c11 => ?_) (fun c11 => ?_)
        · have h := ifn c11 h
          refine m_blk 59 [(7, vi (b7 + 1)), (2, vi b2), (3, vi b3), (4, vr 1 b4), (5, vl b5)] [] C f_x_Mo_state_91_2 rfl ?_
          refine m_loc [(2, vi b2), (3, vi b3), (4, vr 1 b4), (5, vl b5), (7, vi (b7 + 1))] ⟨rfl, rfl, rfl, rfl, rfl, trivial⟩ ?_
          exact ih A b2 b3 b4 b5 (b7 + 1) (h_b4) h
        · have h := ifp c11 h
          refine m_blk 83 [(2, vi b2), (3, vi b3), (4, vr 1 b4), (5, vl b5), (7, vi b7)] [vr 1 b4] C f_x_Mo_state_81_1 rfl ?_
          refine m_getrN C e_x_Mo_state_83 fg_Mo_285 rfl (h_b4) rfl ?_
          refine m_blk 88 [(2, vi b2), (3, vi b3), (4, vr 1 b4), (5, vl b5), (7, vi b7)] [vi b7, vr 4 b4] C f_x_Mo_state_86_1 rfl ?_
          refine m_lald C e_x_Mo_state_88 rfl (h_b4) (by decide) c8.1 c8.2 (A 4 b4 b7.toNat) rfl ?_
          refine m_blk 59 [(7, vi (b7 + 1)), (5, vl (A 4 b4 b7.toNat)), (2, vi b2), (3, vi b3), (4, vr 1 b4)] [] C f_x_Mo_state_89_3 rfl ?_
          refine m_loc [(2, vi b2), (3, vi b3), (4, vr 1 b4), (5, vl (A 4 b4 b7.toNat)), (7, vi (b7 + 1))] ⟨rfl, rfl, rfl, rfl, rfl, trivial⟩ ?_
          exact ih A b2 b3 b4 (A 4 b4 b7.toNat) (b7 + 1) (h_b4) h
  show JM g D ad w0 A 0 [(0, vr 0 0), (1, vi a0), (2, vi a1), (3, vi a2)] []
  unfold f_Mo_state at h
  refine m_blk 2 [(0, vr 0 0), (1, vi a0), (2, vi a1), (3, vi a2)] [vi a0, vr 0 0] C f_x_Mo_state_0_2 rfl ?_
  obtain ⟨q12, e13, h⟩ := obd h
  refine m_callV C Rm Y [vi a0] [] (x_Mo_isProgram l D B H0 ad _ a0 hS _ _ e13) cl_Mo_364 rfl (by decide) rfl rfl e_x_Mo_state_2 rfl rfl rfl ⟨by decide, by decide⟩ ?_
  rintro _ _ ⟨rfl, rfl⟩
  show JM g D ad w0 q12.2 5 [(0, vr 0 0), (1, vi a0), (2, vi a1), (3, vi a2)] [vi q12.1]
  obtain ⟨c14, h⟩ := igd h
  refine m_if_eq (tgt := 28) C e_x_Mo_state_5 (by decide) c14 (fun c15 => ?_) (fun c15 => ?_)
  · have h := ifp c15 h
    refine m_ldc2 C (-4611686018427387904) e_x_Mo_state_28 ld_Mo_370 (by decide) ?_
    exact m_lret C Rm E e_x_Mo_state_31 (finL h)
  · have h := ifn c15 h
    refine m_blk 10 [(0, vr 0 0), (1, vi a0), (2, vi a1), (3, vi a2)] [vi 0, vi a1] C f_x_Mo_state_8_2 rfl ?_
    refine m_ldcw C 999999 e_x_Mo_state_10 ld_Mo_388 (by decide) ?_
    obtain ⟨q16, e17, h⟩ := obd h
    refine m_callS C Rm Y [vi a1, vi 0, vi 999999] [] (x_Mo_in l D B H0 ad _ a1 0 999999 hS _ _ e17) cl_Mo_108 e_x_Mo_state_13 rfl rfl rfl ⟨by decide, by decide⟩ ?_
    rintro _ _ ⟨rfl, rfl⟩
    show JM g D ad w0 q16.2 16 [(0, vr 0 0), (1, vi a0), (2, vi a1), (3, vi a2)] [vi q16.1]
    obtain ⟨c18, h⟩ := igd h
    refine m_if_eq (tgt := 28) C e_x_Mo_state_16 (by decide) c18 (fun c19 => ?_) (fun c19 => ?_)
    · have h := ifp c19 h
      refine m_ldc2 C (-4611686018427387904) e_x_Mo_state_28 ld_Mo_370 (by decide) ?_
      exact m_lret C Rm E e_x_Mo_state_31 (finL h)
    · have h := ifn c19 h
      refine m_blk 22 [(0, vr 0 0), (1, vi a0), (2, vi a1), (3, vi a2)] [vi 1, vi 0, vi a2] C f_x_Mo_state_19_3 rfl ?_
      obtain ⟨q20, e21, h⟩ := obd h
      refine m_callS C Rm Y [vi a2, vi 0, vi 1] [] (x_Mo_in l D B H0 ad _ a2 0 1 hS _ _ e21) cl_Mo_108 e_x_Mo_state_22 rfl rfl rfl ⟨by decide, by decide⟩ ?_
      rintro _ _ ⟨rfl, rfl⟩
      show JM g D ad w0 q20.2 25 [(0, vr 0 0), (1, vi a0), (2, vi a1), (3, vi a2)] [vi q20.1]
      obtain ⟨c22, h⟩ := igd h
      refine m_if_ne (tgt := 32) C e_x_Mo_state_25 (by decide) c22 (fun c23 => ?_) (fun c23 => ?_)
      · have h := ifn c23 h
        refine m_blk 35 [(0, vr 0 0), (1, vi a0), (2, vi a1), (3, vi a2)] [vi (-1), vi a0, vr 0 0] C f_x_Mo_state_32_3 rfl ?_
        obtain ⟨q24, e25, h⟩ := obd h
        refine m_callV C Rm Y [vi a0, vi (-1)] [] (x_Mo_oddsO l D B H0 ad _ a0 (-1) hS _ _ e25) cl_Mo_367 rfl (by decide) rfl rfl e_x_Mo_state_35 rfl rfl rfl ⟨by decide, by decide⟩ ?_
        rintro _ _ ⟨rfl, rfl, g26⟩
        show JM g D ad w0 q24.2 38 [(0, vr 0 0), (1, vi a0), (2, vi a1), (3, vi a2)] [vr 1 q24.1.toNat]
        refine m_blk 43 [(4, vr 1 q24.1.toNat), (0, vr 0 0), (1, vi a0), (2, vi a1), (3, vi a2)] [vr 1 q24.1.toNat, vr 0 0] C f_x_Mo_state_38_3 rfl ?_
        obtain ⟨q27, e28, h⟩ := obd h
        refine m_callV C Rm Y [vr 1 q24.1.toNat] [] (x_Mo_against l D B H0 ad _ q24.1.toNat (g26) hS _ _ e28) cl_Mo_380 rfl (by decide) rfl rfl e_x_Mo_state_43 rfl rfl rfl ⟨by decide, by decide⟩ ?_
        rintro _ _ ⟨rfl, rfl⟩
        show JM g D ad w0 q27.2 46 [(4, vr 1 q24.1.toNat), (0, vr 0 0), (1, vi a0), (2, vi a1), (3, vi a2)] [vi q27.1]
        obtain ⟨c29, h⟩ := igd h
        refine m_if_eq (tgt := 53) C e_x_Mo_state_46 (by decide) c29 (fun c30 => ?_) (fun c30 => ?_)
        · have h := ifp c30 h
          refine m_blk 59 [(7, vi 0), (5, vl 0), (4, vr 1 q24.1.toNat), (0, vr 0 0), (1, vi a0), (2, vi a1), (3, vi a2)] [] C f_x_Mo_state_53_4 rfl ?_
          refine m_loc [(2, vi a1), (3, vi a2), (4, vr 1 q24.1.toNat), (5, vl 0), (7, vi 0)] ⟨rfl, rfl, rfl, rfl, rfl, trivial⟩ ?_
          exact hd_59 _ q27.2 a1 a2 q24.1.toNat 0 0 (g26) h
        · have h := ifn c30 h
          refine m_ldc2 C (-4611686018427387904) e_x_Mo_state_49 ld_Mo_370 (by decide) ?_
          exact m_lret C Rm E e_x_Mo_state_52 (finL h)
      · have h := ifp c23 h
        refine m_ldc2 C (-4611686018427387904) e_x_Mo_state_28 ld_Mo_370 (by decide) ?_
        exact m_lret C Rm E e_x_Mo_state_31 (finL h)

def f_Mo_fold_65 : Nat → mA → Int → Int → Int → Nat → Int → Int → Option (Int × mA)
  | 0, _, _, _, _, _, _, _ => none
  | n + 1, A, b2, b3, b4, b5, b6, b8 => (if g32 b8 then (if 10 ≤ b8 then (Option.bind (f_Odds_all A b5) (fun q3 => (Option.bind (f_Mo_lowest q3.2 b6 q3.1 b4) (fun q5 => (some (q5.1, q5.2)))))) else (Option.bind (f_Mo_foldI A b3 b8) (fun q7 => (if g32 q7.1 then (Option.bind (f_Mo_weightOf q7.2 b5 b2 b8) (fun q10 => (f_Mo_fold_65  n q10.2 b2 b3 b4 b5 (b6 + (q7.1 * q10.1)) (b8 + 1)))) else none)))) else none)
def f_Mo_fold (A : mA) (a0 : Int) (a1 : Int) (a2 : Int) (a3 : Int) : Option (Int × mA) := (Option.bind (f_Mo_isProgram A a0) (fun q12 => (if g32 q12.1 then (if q12.1 = 0 then (some ((-4611686018427387904), q12.2)) else (Option.bind (f_Mo_isName q12.2 a1) (fun q16 => (if g32 q16.1 then (if q16.1 = 0 then (some ((-4611686018427387904), q16.2)) else (Option.bind (f_Mo_in q16.2 a2 0 5) (fun q20 => (if g32 q20.1 then (if q20.1 = 0 then (some ((-4611686018427387904), q20.2)) else (Option.bind (f_Mo_in q20.2 a3 0 1) (fun q24 => (if g32 q24.1 then (if q24.1 = 0 then (some ((-4611686018427387904), q24.2)) else (Option.bind (f_Mo_oddsO q24.2 a0 (-1)) (fun q28 => (Option.bind (f_Mo_against q28.2 q28.1.toNat) (fun q31 => (if g32 q31.1 then (if q31.1 = 0 then (f_Mo_fold_65  20 q31.2 a1 a2 a3 q28.1.toNat 0 0) else (some ((-4611686018427387904), q31.2))) else none)))))) else none)))) else none)))) else none)))) else none)))
theorem f_x_Mo_fold_0_2 : mblkB b_Mo_fold_1 [(0, .aload_n 0, vi 0), (1, .iload_n 1, vi 0)] = true := by decide +kernel
theorem e_x_Mo_fold_2 : decode b_Mo_fold_1 2 = .ok (.invokevirtual 364, 3) := by decide +kernel
theorem e_x_Mo_fold_5 : decode b_Mo_fold_1 5 = .ok (.ifCond .eq 29, 3) := by decide +kernel
theorem e_x_Mo_fold_34 : decode b_Mo_fold_1 34 = .ok (.ldc2_w 370, 3) := by decide +kernel
theorem e_x_Mo_fold_37 : decode b_Mo_fold_1 37 = .ok (.lreturn, 1) := by decide +kernel
theorem f_x_Mo_fold_8_1 : mblkB b_Mo_fold_1 [(8, .iload_n 2, vi 0)] = true := by decide +kernel
theorem e_x_Mo_fold_9 : decode b_Mo_fold_1 9 = .ok (.invokestatic 254, 3) := by decide +kernel
theorem e_x_Mo_fold_12 : decode b_Mo_fold_1 12 = .ok (.ifCond .eq 22, 3) := by decide +kernel
theorem f_x_Mo_fold_15_3 : mblkB b_Mo_fold_1 [(15, .iload_n 3, vi 0), (16, .iconst 0, vi 0), (17, .iconst 5, vi 5)] = true := by decide +kernel
theorem e_x_Mo_fold_18 : decode b_Mo_fold_1 18 = .ok (.invokestatic 108, 3) := by decide +kernel
theorem e_x_Mo_fold_21 : decode b_Mo_fold_1 21 = .ok (.ifCond .eq 13, 3) := by decide +kernel
theorem f_x_Mo_fold_24_3 : mblkB b_Mo_fold_1 [(24, .iload 4, vi 0), (26, .iconst 0, vi 0), (27, .iconst 1, vi 1)] = true := by decide +kernel
theorem e_x_Mo_fold_28 : decode b_Mo_fold_1 28 = .ok (.invokestatic 108, 3) := by decide +kernel
theorem e_x_Mo_fold_31 : decode b_Mo_fold_1 31 = .ok (.ifCond .ne 7, 3) := by decide +kernel
theorem f_x_Mo_fold_38_3 : mblkB b_Mo_fold_1 [(38, .aload_n 0, vi 0), (39, .iload_n 1, vi 0), (40, .iconst (-1), vi (-1))] = true := by decide +kernel
theorem e_x_Mo_fold_41 : decode b_Mo_fold_1 41 = .ok (.invokevirtual 367, 3) := by decide +kernel
theorem f_x_Mo_fold_44_3 : mblkB b_Mo_fold_1 [(44, .astore 5, vi 0), (46, .aload_n 0, vi 0), (47, .aload 5, vi 0)] = true := by decide +kernel
theorem e_x_Mo_fold_49 : decode b_Mo_fold_1 49 = .ok (.invokevirtual 380, 3) := by decide +kernel
theorem e_x_Mo_fold_52 : decode b_Mo_fold_1 52 = .ok (.ifCond .eq 7, 3) := by decide +kernel
theorem f_x_Mo_fold_59_4 : mblkB b_Mo_fold_1 [(59, .lconst 0, vl 0), (60, .lstore 6, vi 0), (62, .iconst 0, vi 0), (63, .istore 8, vi 0)] = true := by decide +kernel
theorem e_x_Mo_fold_55 : decode b_Mo_fold_1 55 = .ok (.ldc2_w 370, 3) := by decide +kernel
theorem e_x_Mo_fold_58 : decode b_Mo_fold_1 58 = .ok (.lreturn, 1) := by decide +kernel
theorem f_x_Mo_fold_65_2 : mblkB b_Mo_fold_1 [(65, .iload 8, vi 0), (67, .bipush 10, vi 10)] = true := by decide +kernel
theorem e_x_Mo_fold_69 : decode b_Mo_fold_1 69 = .ok (.if_icmp .ge 30, 3) := by decide +kernel
theorem f_x_Mo_fold_99_2 : mblkB b_Mo_fold_1 [(99, .lload 6, vi 0), (101, .aload 5, vi 0)] = true := by decide +kernel
theorem e_x_Mo_fold_103 : decode b_Mo_fold_1 103 = .ok (.invokevirtual 372, 3) := by decide +kernel
theorem f_x_Mo_fold_106_1 : mblkB b_Mo_fold_1 [(106, .iload 4, vi 0)] = true := by decide +kernel
theorem e_x_Mo_fold_108 : decode b_Mo_fold_1 108 = .ok (.invokestatic 376, 3) := by decide +kernel
theorem e_x_Mo_fold_111 : decode b_Mo_fold_1 111 = .ok (.lreturn, 1) := by decide +kernel
theorem f_x_Mo_fold_72_3 : mblkB b_Mo_fold_1 [(72, .lload 6, vi 0), (74, .iload_n 3, vi 0), (75, .iload 8, vi 0)] = true := by decide +kernel
theorem e_x_Mo_fold_77 : decode b_Mo_fold_1 77 = .ok (.invokestatic 389, 3) := by decide +kernel
theorem e_x_Mo_fold_80 : decode b_Mo_fold_1 80 = .ok (.i2l, 1) := by decide +kernel
theorem f_x_Mo_fold_81_3 : mblkB b_Mo_fold_1 [(81, .aload 5, vi 0), (83, .iload_n 2, vi 0), (84, .iload 8, vi 0)] = true := by decide +kernel
theorem e_x_Mo_fold_86 : decode b_Mo_fold_1 86 = .ok (.invokestatic 384, 3) := by decide +kernel
theorem f_x_Mo_fold_89_5 : mblkB b_Mo_fold_1 [(89, .lmul, vi 0), (90, .ladd, vi 0), (91, .lstore 6, vi 0), (93, .iinc 8 1, vi 1), (96, .goto (-31), vi 65)] = true := by decide +kernel
set_option maxHeartbeats 4000000 in
set_option maxRecDepth 20000 in
theorem x_Mo_fold  : ∀ (l : Launch) (D : va_G) (B : Nat) (H0 : Heap) (ad : mAd) (A : mA) (a0 : Int) (a1 : Int) (a2 : Int) (a3 : Int) (hS : mStr D ad) (r9 : Int) (A9 : mA), f_Mo_fold  A a0 a1 a2 a3 = some (r9, A9) → mMet l D B H0 ad y_Mo_fold_1 b_Mo_fold_1 9 (some .long) 1083 35675 [vr 0 0, vi a0, vi a1, vi a2, vi a3] A (fun v A' => v = some (vl r9) ∧ A' = A9) := by
  intro l D B H0 ad A a0 a1 a2 a3  hS r9 A9 h
  refine m_met (by decide) rfl (fun g w0 C Rm Y E => ?_)
  have hd_65 : ∀ (n : Nat) (A : mA) (b2 : Int) (b3 : Int) (b4 : Int) (b5 : Nat) (b6 : Int) (b8 : Int) , b5 < 200 → f_Mo_fold_65  n A b2 b3 b4 b5 b6 b8 = some (r9, A9) → JM g D ad w0 A 65 [(2, vi b2), (3, vi b3), (4, vi b4), (5, vr 1 b5), (6, vl b6), (8, vi b8)] [] := by
    intro n
    induction n with
    | zero => intro A b2 b3 b4 b5 b6 b8 h_b5 h; cases h
    | succ n ih =>
      intro A b2 b3 b4 b5 b6 b8 h_b5 h
      unfold f_Mo_fold_65 at h
      refine m_blk 69 [(2, vi b2), (3, vi b3), (4, vi b4), (5, vr 1 b5), (6, vl b6), (8, vi b8)] [vi 10, vi b8] C f_x_Mo_fold_65_2 rfl ?_
      obtain ⟨c1, h⟩ := igd h
      refine m_icmp_ge (tgt := 99) C e_x_Mo_fold_69 (by decide) c1 (by decide) (fun c2 => ?_) (fun c2 => ?_)
      · have h := ifp c2 h
        refine m_blk 103 [(2, vi b2), (3, vi b3), (4, vi b4), (5, vr 1 b5), (6, vl b6), (8, vi b8)] [vr 1 b5, vl b6] C f_x_Mo_fold_99_2 rfl ?_
        obtain ⟨q3, e4, h⟩ := obd h
        refine m_callV C Rm Y [] [vl b6] (x_Odds_all l D B H0 ad _ b5 (h_b5) hS _ _ e4) cl_Mo_372 rfl (h_b5) rfl rfl e_x_Mo_fold_103 rfl rfl rfl ⟨by decide, by decide⟩ ?_
        rintro _ _ ⟨rfl, rfl⟩
        show JM g D ad w0 q3.2 106 [(2, vi b2), (3, vi b3), (4, vi b4), (5, vr 1 b5), (6, vl b6), (8, vi b8)] [vl q3.1, vl b6]
        refine m_blk 108 [(2, vi b2), (3, vi b3), (4, vi b4), (5, vr 1 b5), (6, vl b6), (8, vi b8)] [vi b4, vl q3.1, vl b6] C f_x_Mo_fold_106_1 rfl ?_
        obtain ⟨q5, e6, h⟩ := obd h
        refine m_callS C Rm Y [vl b6, vl q3.1, vi b4] [] (x_Mo_lowest l D B H0 ad _ b6 q3.1 b4 hS _ _ e6) cl_Mo_376 e_x_Mo_fold_108 rfl rfl rfl ⟨by decide, by decide⟩ ?_
        rintro _ _ ⟨rfl, rfl⟩
        show JM g D ad w0 q5.2 111 [(2, vi b2), (3, vi b3), (4, vi b4), (5, vr 1 b5), (6, vl b6), (8, vi b8)] [vl q5.1]
        exact m_lret C Rm E e_x_Mo_fold_111 (finL h)
      · have h := ifn c2 h
        refine m_blk 77 [(2, vi b2), (3, vi b3), (4, vi b4), (5, vr 1 b5), (6, vl b6), (8, vi b8)] [vi b8, vi b3, vl b6] C f_x_Mo_fold_72_3 rfl ?_
        obtain ⟨q7, e8, h⟩ := obd h
        refine m_callS C Rm Y [vi b3, vi b8] [vl b6] (x_Mo_foldI l D B H0 ad _ b3 b8 hS _ _ e8) cl_Mo_389 e_x_Mo_fold_77 rfl rfl rfl ⟨by decide, by decide⟩ ?_
        rintro _ _ ⟨rfl, rfl⟩
        show JM g D ad w0 q7.2 80 [(2, vi b2), (3, vi b3), (4, vi b4), (5, vr 1 b5), (6, vl b6), (8, vi b8)] [vi q7.1, vl b6]
        obtain ⟨c9, h⟩ := igd h
        refine m_i2l C e_x_Mo_fold_80 c9 ?_
        refine m_blk 86 [(2, vi b2), (3, vi b3), (4, vi b4), (5, vr 1 b5), (6, vl b6), (8, vi b8)] [vi b8, vi b2, vr 1 b5, vl q7.1, vl b6] C f_x_Mo_fold_81_3 rfl ?_
        obtain ⟨q10, e11, h⟩ := obd h
        refine m_callS C Rm Y [vr 1 b5, vi b2, vi b8] [vl q7.1, vl b6] (x_Mo_weightOf l D B H0 ad _ b5 b2 b8 (h_b5) hS _ _ e11) cl_Mo_384 e_x_Mo_fold_86 rfl rfl rfl ⟨by decide, by decide⟩ ?_
        rintro _ _ ⟨rfl, rfl⟩
        show JM g D ad w0 q10.2 89 [(2, vi b2), (3, vi b3), (4, vi b4), (5, vr 1 b5), (6, vl b6), (8, vi b8)] [vl q10.1, vl q7.1, vl b6]
        refine m_blk 65 [(8, vi (b8 + 1)), (6, vl (b6 + (q7.1 * q10.1))), (2, vi b2), (3, vi b3), (4, vi b4), (5, vr 1 b5)] [] C f_x_Mo_fold_89_5 rfl ?_
        refine m_loc [(2, vi b2), (3, vi b3), (4, vi b4), (5, vr 1 b5), (6, vl (b6 + (q7.1 * q10.1))), (8, vi (b8 + 1))] ⟨rfl, rfl, rfl, rfl, rfl, rfl, trivial⟩ ?_
        exact ih q10.2 b2 b3 b4 b5 (b6 + (q7.1 * q10.1)) (b8 + 1) (h_b5) h
  show JM g D ad w0 A 0 [(0, vr 0 0), (1, vi a0), (2, vi a1), (3, vi a2), (4, vi a3)] []
  unfold f_Mo_fold at h
  refine m_blk 2 [(0, vr 0 0), (1, vi a0), (2, vi a1), (3, vi a2), (4, vi a3)] [vi a0, vr 0 0] C f_x_Mo_fold_0_2 rfl ?_
  obtain ⟨q12, e13, h⟩ := obd h
  refine m_callV C Rm Y [vi a0] [] (x_Mo_isProgram l D B H0 ad _ a0 hS _ _ e13) cl_Mo_364 rfl (by decide) rfl rfl e_x_Mo_fold_2 rfl rfl rfl ⟨by decide, by decide⟩ ?_
  rintro _ _ ⟨rfl, rfl⟩
  show JM g D ad w0 q12.2 5 [(0, vr 0 0), (1, vi a0), (2, vi a1), (3, vi a2), (4, vi a3)] [vi q12.1]
  obtain ⟨c14, h⟩ := igd h
  refine m_if_eq (tgt := 34) C e_x_Mo_fold_5 (by decide) c14 (fun c15 => ?_) (fun c15 => ?_)
  · have h := ifp c15 h
    refine m_ldc2 C (-4611686018427387904) e_x_Mo_fold_34 ld_Mo_370 (by decide) ?_
    exact m_lret C Rm E e_x_Mo_fold_37 (finL h)
  · have h := ifn c15 h
    refine m_blk 9 [(0, vr 0 0), (1, vi a0), (2, vi a1), (3, vi a2), (4, vi a3)] [vi a1] C f_x_Mo_fold_8_1 rfl ?_
    obtain ⟨q16, e17, h⟩ := obd h
    refine m_callS C Rm Y [vi a1] [] (x_Mo_isName l D B H0 ad _ a1 hS _ _ e17) cl_Mo_254 e_x_Mo_fold_9 rfl rfl rfl ⟨by decide, by decide⟩ ?_
    rintro _ _ ⟨rfl, rfl⟩
    show JM g D ad w0 q16.2 12 [(0, vr 0 0), (1, vi a0), (2, vi a1), (3, vi a2), (4, vi a3)] [vi q16.1]
    obtain ⟨c18, h⟩ := igd h
    refine m_if_eq (tgt := 34) C e_x_Mo_fold_12 (by decide) c18 (fun c19 => ?_) (fun c19 => ?_)
    · have h := ifp c19 h
      refine m_ldc2 C (-4611686018427387904) e_x_Mo_fold_34 ld_Mo_370 (by decide) ?_
      exact m_lret C Rm E e_x_Mo_fold_37 (finL h)
    · have h := ifn c19 h
      refine m_blk 18 [(0, vr 0 0), (1, vi a0), (2, vi a1), (3, vi a2), (4, vi a3)] [vi 5, vi 0, vi a2] C f_x_Mo_fold_15_3 rfl ?_
      obtain ⟨q20, e21, h⟩ := obd h
      refine m_callS C Rm Y [vi a2, vi 0, vi 5] [] (x_Mo_in l D B H0 ad _ a2 0 5 hS _ _ e21) cl_Mo_108 e_x_Mo_fold_18 rfl rfl rfl ⟨by decide, by decide⟩ ?_
      rintro _ _ ⟨rfl, rfl⟩
      show JM g D ad w0 q20.2 21 [(0, vr 0 0), (1, vi a0), (2, vi a1), (3, vi a2), (4, vi a3)] [vi q20.1]
      obtain ⟨c22, h⟩ := igd h
      refine m_if_eq (tgt := 34) C e_x_Mo_fold_21 (by decide) c22 (fun c23 => ?_) (fun c23 => ?_)
      · have h := ifp c23 h
        refine m_ldc2 C (-4611686018427387904) e_x_Mo_fold_34 ld_Mo_370 (by decide) ?_
        exact m_lret C Rm E e_x_Mo_fold_37 (finL h)
      · have h := ifn c23 h
        refine m_blk 28 [(0, vr 0 0), (1, vi a0), (2, vi a1), (3, vi a2), (4, vi a3)] [vi 1, vi 0, vi a3] C f_x_Mo_fold_24_3 rfl ?_
        obtain ⟨q24, e25, h⟩ := obd h
        refine m_callS C Rm Y [vi a3, vi 0, vi 1] [] (x_Mo_in l D B H0 ad _ a3 0 1 hS _ _ e25) cl_Mo_108 e_x_Mo_fold_28 rfl rfl rfl ⟨by decide, by decide⟩ ?_
        rintro _ _ ⟨rfl, rfl⟩
        show JM g D ad w0 q24.2 31 [(0, vr 0 0), (1, vi a0), (2, vi a1), (3, vi a2), (4, vi a3)] [vi q24.1]
        obtain ⟨c26, h⟩ := igd h
        refine m_if_ne (tgt := 38) C e_x_Mo_fold_31 (by decide) c26 (fun c27 => ?_) (fun c27 => ?_)
        · have h := ifn c27 h
          refine m_blk 41 [(0, vr 0 0), (1, vi a0), (2, vi a1), (3, vi a2), (4, vi a3)] [vi (-1), vi a0, vr 0 0] C f_x_Mo_fold_38_3 rfl ?_
          obtain ⟨q28, e29, h⟩ := obd h
          refine m_callV C Rm Y [vi a0, vi (-1)] [] (x_Mo_oddsO l D B H0 ad _ a0 (-1) hS _ _ e29) cl_Mo_367 rfl (by decide) rfl rfl e_x_Mo_fold_41 rfl rfl rfl ⟨by decide, by decide⟩ ?_
          rintro _ _ ⟨rfl, rfl, g30⟩
          show JM g D ad w0 q28.2 44 [(0, vr 0 0), (1, vi a0), (2, vi a1), (3, vi a2), (4, vi a3)] [vr 1 q28.1.toNat]
          refine m_blk 49 [(5, vr 1 q28.1.toNat), (0, vr 0 0), (1, vi a0), (2, vi a1), (3, vi a2), (4, vi a3)] [vr 1 q28.1.toNat, vr 0 0] C f_x_Mo_fold_44_3 rfl ?_
          obtain ⟨q31, e32, h⟩ := obd h
          refine m_callV C Rm Y [vr 1 q28.1.toNat] [] (x_Mo_against l D B H0 ad _ q28.1.toNat (g30) hS _ _ e32) cl_Mo_380 rfl (by decide) rfl rfl e_x_Mo_fold_49 rfl rfl rfl ⟨by decide, by decide⟩ ?_
          rintro _ _ ⟨rfl, rfl⟩
          show JM g D ad w0 q31.2 52 [(5, vr 1 q28.1.toNat), (0, vr 0 0), (1, vi a0), (2, vi a1), (3, vi a2), (4, vi a3)] [vi q31.1]
          obtain ⟨c33, h⟩ := igd h
          refine m_if_eq (tgt := 59) C e_x_Mo_fold_52 (by decide) c33 (fun c34 => ?_) (fun c34 => ?_)
          · have h := ifp c34 h
            refine m_blk 65 [(8, vi 0), (6, vl 0), (5, vr 1 q28.1.toNat), (0, vr 0 0), (1, vi a0), (2, vi a1), (3, vi a2), (4, vi a3)] [] C f_x_Mo_fold_59_4 rfl ?_
            refine m_loc [(2, vi a1), (3, vi a2), (4, vi a3), (5, vr 1 q28.1.toNat), (6, vl 0), (8, vi 0)] ⟨rfl, rfl, rfl, rfl, rfl, rfl, trivial⟩ ?_
            exact hd_65 _ q31.2 a1 a2 a3 q28.1.toNat 0 0 (g30) h
          · have h := ifn c34 h
            refine m_ldc2 C (-4611686018427387904) e_x_Mo_fold_55 ld_Mo_370 (by decide) ?_
            exact m_lret C Rm E e_x_Mo_fold_58 (finL h)
        · have h := ifp c27 h
          refine m_ldc2 C (-4611686018427387904) e_x_Mo_fold_34 ld_Mo_370 (by decide) ?_
          exact m_lret C Rm E e_x_Mo_fold_37 (finL h)

def f_Mo_likeliest_69 : Nat → mA → Int → Nat → Int → Int → Int → Int → Option (Int × mA)
  | 0, _, _, _, _, _, _, _ => none
  | n + 1, A, b2, b3, b5, b6, b8, b9 => (if g32 b9 then if g32 b8 then (if b8 ≤ b9 then (some (b5, A)) else (if g32 b2 then (if b2 = 6 then (if (0 ≤ b9 ∧ b9 < ((301 : Nat) : Int)) then (if g64 (A 4 b3 b9.toNat) then (if g64 b6 then (if 0 < (lc (A 4 b3 b9.toNat) b6) then (f_Mo_likeliest_69  n A b2 b3 (A 3 b3 b9.toNat) (A 4 b3 b9.toNat) b8 (b9 + 1)) else (f_Mo_likeliest_69  n A b2 b3 b5 b6 b8 (b9 + 1))) else none) else none) else none) else (Option.bind (f_Mo_weightOf A b3 b2 b9) (fun q6 => (if g64 q6.1 then (if g64 b6 then (if 0 < (lc q6.1 b6) then (f_Mo_likeliest_69  n q6.2 b2 b3 b9 q6.1 b8 (b9 + 1)) else (f_Mo_likeliest_69  n q6.2 b2 b3 b5 b6 b8 (b9 + 1))) else none) else none)))) else none)) else none else none)
def f_Mo_likeliest (A : mA) (a0 : Int) (a1 : Int) : Option (Int × mA) := (Option.bind (f_Mo_isProgram A a0) (fun q19 => (if g32 q19.1 then (if q19.1 = 0 then (some ((-2), q19.2)) else (Option.bind (f_Mo_in q19.2 a1 0 6) (fun q23 => (if g32 q23.1 then (if q23.1 = 0 then (some ((-2), q23.2)) else (Option.bind (f_Mo_oddsO q23.2 a0 (-1)) (fun q27 => (Option.bind (f_Mo_against q27.2 q27.1.toNat) (fun q30 => (if g32 q30.1 then (if q30.1 = 0 then (if g32 a1 then (if a1 = 6 then (f_Mo_likeliest_69  310 q30.2 a1 q27.1.toNat (-1) 0 (q30.2 1 q27.1.toNat 2) 0) else (f_Mo_likeliest_69  310 q30.2 a1 q27.1.toNat (-1) 0 10 0)) else none) else (some (q30.1, q30.2))) else none)))))) else none)))) else none)))
theorem f_x_Mo_likeliest_0_2 : mblkB b_Mo_likeliest [(0, .aload_n 0, vi 0), (1, .iload_n 1, vi 0)] = true := by decide +kernel
theorem e_x_Mo_likeliest_2 : decode b_Mo_likeliest 2 = .ok (.invokevirtual 364, 3) := by decide +kernel
theorem e_x_Mo_likeliest_5 : decode b_Mo_likeliest 5 = .ok (.ifCond .eq 13, 3) := by decide +kernel
theorem f_x_Mo_likeliest_18_1 : mblkB b_Mo_likeliest [(18, .bipush (-2), vi (-2))] = true := by decide +kernel
theorem e_x_Mo_likeliest_20 : decode b_Mo_likeliest 20 = .ok (.ireturn, 1) := by decide +kernel
theorem f_x_Mo_likeliest_8_3 : mblkB b_Mo_likeliest [(8, .iload_n 2, vi 0), (9, .iconst 0, vi 0), (10, .bipush 6, vi 6)] = true := by decide +kernel
theorem e_x_Mo_likeliest_12 : decode b_Mo_likeliest 12 = .ok (.invokestatic 108, 3) := by decide +kernel
theorem e_x_Mo_likeliest_15 : decode b_Mo_likeliest 15 = .ok (.ifCond .ne 6, 3) := by decide +kernel
theorem f_x_Mo_likeliest_21_3 : mblkB b_Mo_likeliest [(21, .aload_n 0, vi 0), (22, .iload_n 1, vi 0), (23, .iconst (-1), vi (-1))] = true := by decide +kernel
theorem e_x_Mo_likeliest_24 : decode b_Mo_likeliest 24 = .ok (.invokevirtual 367, 3) := by decide +kernel
theorem f_x_Mo_likeliest_27_3 : mblkB b_Mo_likeliest [(27, .astore_n 3, vi 0), (28, .aload_n 0, vi 0), (29, .aload_n 3, vi 0)] = true := by decide +kernel
theorem e_x_Mo_likeliest_30 : decode b_Mo_likeliest 30 = .ok (.invokevirtual 380, 3) := by decide +kernel
theorem f_x_Mo_likeliest_33_2 : mblkB b_Mo_likeliest [(33, .istore 4, vi 0), (35, .iload 4, vi 0)] = true := by decide +kernel
theorem e_x_Mo_likeliest_37 : decode b_Mo_likeliest 37 = .ok (.ifCond .eq 6, 3) := by decide +kernel
theorem f_x_Mo_likeliest_43_6 : mblkB b_Mo_likeliest [(43, .iconst (-1), vi (-1)), (44, .istore 5, vi 0), (46, .lconst 0, vl 0), (47, .lstore 6, vi 0), (49, .iload_n 2, vi 0), (50, .bipush 6, vi 6)] = true := by decide +kernel
theorem e_x_Mo_likeliest_52 : decode b_Mo_likeliest 52 = .ok (.if_icmp .ne 10, 3) := by decide +kernel
theorem f_x_Mo_likeliest_62_4 : mblkB b_Mo_likeliest [(62, .bipush 10, vi 10), (64, .istore 8, vi 0), (66, .iconst 0, vi 0), (67, .istore 9, vi 0)] = true := by decide +kernel
theorem f_x_Mo_likeliest_55_1 : mblkB b_Mo_likeliest [(55, .aload_n 3, vi 0)] = true := by decide +kernel
theorem e_x_Mo_likeliest_56 : decode b_Mo_likeliest 56 = .ok (.getfield 272, 3) := by decide +kernel
theorem f_x_Mo_likeliest_59_1 : mblkB b_Mo_likeliest [(59, .goto 5, vi 64)] = true := by decide +kernel
theorem f_x_Mo_likeliest_64_3 : mblkB b_Mo_likeliest [(64, .istore 8, vi 0), (66, .iconst 0, vi 0), (67, .istore 9, vi 0)] = true := by decide +kernel
theorem f_x_Mo_likeliest_40_1 : mblkB b_Mo_likeliest [(40, .iload 4, vi 0)] = true := by decide +kernel
theorem e_x_Mo_likeliest_42 : decode b_Mo_likeliest 42 = .ok (.ireturn, 1) := by decide +kernel
theorem f_x_Mo_likeliest_69_2 : mblkB b_Mo_likeliest [(69, .iload 9, vi 0), (71, .iload 8, vi 0)] = true := by decide +kernel
theorem e_x_Mo_likeliest_73 : decode b_Mo_likeliest 73 = .ok (.if_icmp .ge 69, 3) := by decide +kernel
theorem f_x_Mo_likeliest_142_1 : mblkB b_Mo_likeliest [(142, .iload 5, vi 0)] = true := by decide +kernel
theorem e_x_Mo_likeliest_144 : decode b_Mo_likeliest 144 = .ok (.ireturn, 1) := by decide +kernel
theorem f_x_Mo_likeliest_76_2 : mblkB b_Mo_likeliest [(76, .iload_n 2, vi 0), (77, .bipush 6, vi 6)] = true := by decide +kernel
theorem e_x_Mo_likeliest_79 : decode b_Mo_likeliest 79 = .ok (.if_icmp .ne 13, 3) := by decide +kernel
theorem f_x_Mo_likeliest_92_3 : mblkB b_Mo_likeliest [(92, .aload_n 3, vi 0), (93, .iload_n 2, vi 0), (94, .iload 9, vi 0)] = true := by decide +kernel
theorem e_x_Mo_likeliest_96 : decode b_Mo_likeliest 96 = .ok (.invokestatic 384, 3) := by decide +kernel
theorem f_x_Mo_likeliest_99_3 : mblkB b_Mo_likeliest [(99, .lstore 10, vi 0), (101, .lload 10, vi 0), (103, .lload 6, vi 0)] = true := by decide +kernel
theorem e_x_Mo_likeliest_105 : decode b_Mo_likeliest 105 = .ok (.lcmp, 1) := by decide +kernel
theorem e_x_Mo_likeliest_106 : decode b_Mo_likeliest 106 = .ok (.ifCond .gt 6, 3) := by decide +kernel
theorem f_x_Mo_likeliest_112_4 : mblkB b_Mo_likeliest [(112, .lload 10, vi 0), (114, .lstore 6, vi 0), (116, .iload_n 2, vi 0), (117, .bipush 6, vi 6)] = true := by decide +kernel
theorem e_x_Mo_likeliest_119 : decode b_Mo_likeliest 119 = .ok (.if_icmp .ne 13, 3) := by decide +kernel
theorem f_x_Mo_likeliest_132_4 : mblkB b_Mo_likeliest [(132, .iload 9, vi 0), (134, .istore 5, vi 0), (136, .iinc 9 1, vi 1), (139, .goto (-70), vi 69)] = true := by decide +kernel
theorem f_x_Mo_likeliest_109_1 : mblkB b_Mo_likeliest [(109, .goto 27, vi 136)] = true := by decide +kernel
theorem f_x_Mo_likeliest_136_2 : mblkB b_Mo_likeliest [(136, .iinc 9 1, vi 1), (139, .goto (-70), vi 69)] = true := by decide +kernel
theorem f_x_Mo_likeliest_82_1 : mblkB b_Mo_likeliest [(82, .aload_n 3, vi 0)] = true := by decide +kernel
theorem e_x_Mo_likeliest_83 : decode b_Mo_likeliest 83 = .ok (.getfield 285, 3) := by decide +kernel
theorem f_x_Mo_likeliest_86_1 : mblkB b_Mo_likeliest [(86, .iload 9, vi 0)] = true := by decide +kernel
theorem e_x_Mo_likeliest_88 : decode b_Mo_likeliest 88 = .ok (.laload, 1) := by decide +kernel
theorem f_x_Mo_likeliest_89_1 : mblkB b_Mo_likeliest [(89, .goto 10, vi 99)] = true := by decide +kernel
theorem f_x_Mo_likeliest_122_1 : mblkB b_Mo_likeliest [(122, .aload_n 3, vi 0)] = true := by decide +kernel
theorem e_x_Mo_likeliest_123 : decode b_Mo_likeliest 123 = .ok (.getfield 279, 3) := by decide +kernel
theorem f_x_Mo_likeliest_126_1 : mblkB b_Mo_likeliest [(126, .iload 9, vi 0)] = true := by decide +kernel
theorem e_x_Mo_likeliest_128 : decode b_Mo_likeliest 128 = .ok (.iaload, 1) := by decide +kernel
theorem f_x_Mo_likeliest_129_1 : mblkB b_Mo_likeliest [(129, .goto 5, vi 134)] = true := by decide +kernel
theorem f_x_Mo_likeliest_134_3 : mblkB b_Mo_likeliest [(134, .istore 5, vi 0), (136, .iinc 9 1, vi 1), (139, .goto (-70), vi 69)] = true := by decide +kernel
set_option maxHeartbeats 4000000 in
set_option maxRecDepth 20000 in
theorem x_Mo_likeliest  : ∀ (l : Launch) (D : va_G) (B : Nat) (H0 : Heap) (ad : mAd) (A : mA) (a0 : Int) (a1 : Int) (hS : mStr D ad) (r9 : Int) (A9 : mA), f_Mo_likeliest  A a0 a1 = some (r9, A9) → mMet l D B H0 ad y_Mo_likeliest b_Mo_likeliest 12 (some .int) 1083 35675 [vr 0 0, vi a0, vi a1] A (fun v A' => v = some (vi r9) ∧ A' = A9) := by
  intro l D B H0 ad A a0 a1  hS r9 A9 h
  refine m_met (by decide) rfl (fun g w0 C Rm Y E => ?_)
  have hd_69 : ∀ (n : Nat) (A : mA) (b2 : Int) (b3 : Nat) (b5 : Int) (b6 : Int) (b8 : Int) (b9 : Int) , b3 < 200 → f_Mo_likeliest_69  n A b2 b3 b5 b6 b8 b9 = some (r9, A9) → JM g D ad w0 A 69 [(2, vi b2), (3, vr 1 b3), (5, vi b5), (6, vl b6), (8, vi b8), (9, vi b9)] [] := by
    intro n
    induction n with
    | zero => intro A b2 b3 b5 b6 b8 b9 h_b3 h; cases h
    | succ n ih =>
      intro A b2 b3 b5 b6 b8 b9 h_b3 h
      unfold f_Mo_likeliest_69 at h
      refine m_blk 73 [(2, vi b2), (3, vr 1 b3), (5, vi b5), (6, vl b6), (8, vi b8), (9, vi b9)] [vi b8, vi b9] C f_x_Mo_likeliest_69_2 rfl ?_
      obtain ⟨c1, h⟩ := igd h
      obtain ⟨c2, h⟩ := igd h
      refine m_icmp_ge (tgt := 142) C e_x_Mo_likeliest_73 (by decide) c1 c2 (fun c3 => ?_) (fun c3 => ?_)
      · have h := ifp c3 h
        refine m_blk 144 [(2, vi b2), (3, vr 1 b3), (5, vi b5), (6, vl b6), (8, vi b8), (9, vi b9)] [vi b5] C f_x_Mo_likeliest_142_1 rfl ?_
        exact m_iret C Rm E e_x_Mo_likeliest_144 (fin1 h)
      · have h := ifn c3 h
        refine m_blk 79 [(2, vi b2), (3, vr 1 b3), (5, vi b5), (6, vl b6), (8, vi b8), (9, vi b9)] [vi 6, vi b2] C f_x_Mo_likeliest_76_2 rfl ?_
        obtain ⟨c4, h⟩ := igd h
        refine m_icmp_ne (tgt := 92) C e_x_Mo_likeliest_79 (by decide) c4 (by decide) (fun c5 => ?_) (fun c5 => ?_)
        · have h := ifn c5 h
          refine m_blk 96 [(2, vi b2), (3, vr 1 b3), (5, vi b5), (6, vl b6), (8, vi b8), (9, vi b9)] [vi b9, vi b2, vr 1 b3] C f_x_Mo_likeliest_92_3 rfl ?_
          obtain ⟨q6, e7, h⟩ := obd h
          refine m_callS C Rm Y [vr 1 b3, vi b2, vi b9] [] (x_Mo_weightOf l D B H0 ad _ b3 b2 b9 (h_b3) hS _ _ e7) cl_Mo_384 e_x_Mo_likeliest_96 rfl rfl rfl ⟨by decide, by decide⟩ ?_
          rintro _ _ ⟨rfl, rfl⟩
          show JM g D ad w0 q6.2 99 [(2, vi b2), (3, vr 1 b3), (5, vi b5), (6, vl b6), (8, vi b8), (9, vi b9)] [vl q6.1]
          refine m_blk 105 [(10, vl q6.1), (2, vi b2), (3, vr 1 b3), (5, vi b5), (6, vl b6), (8, vi b8), (9, vi b9)] [vl b6, vl q6.1] C f_x_Mo_likeliest_99_3 rfl ?_
          obtain ⟨c8, h⟩ := igd h
          obtain ⟨c9, h⟩ := igd h
          refine m_lcmp C e_x_Mo_likeliest_105 c8 c9 (fun z10 hz10 => ?_)
          obtain rfl : z10 = lc q6.1 b6 := lc_of hz10
          refine m_if_gt (tgt := 112) C e_x_Mo_likeliest_106 (by decide) lc_r (fun c11 => ?_) (fun c11 => ?_)
          · have h := ifp c11 h
            refine m_blk 119 [(6, vl q6.1), (10, vl q6.1), (2, vi b2), (3, vr 1 b3), (5, vi b5), (8, vi b8), (9, vi b9)] [vi 6, vi b2] C f_x_Mo_likeliest_112_4 rfl ?_
            refine m_icmp_ne (tgt := 132) C e_x_Mo_likeliest_119 (by decide) c4 (by decide) (fun c12 => ?_) (fun c12 => (by omega : False).elim)
            refine m_blk 69 [(9, vi (b9 + 1)), (5, vi b9), (6, vl q6.1), (10, vl q6.1), (2, vi b2), (3, vr 1 b3), (8, vi b8)] [] C f_x_Mo_likeliest_132_4 rfl ?_
            refine m_loc [(2, vi b2), (3, vr 1 b3), (5, vi b9), (6, vl q6.1), (8, vi b8), (9, vi (b9 + 1))] ⟨rfl, rfl, rfl, rfl, rfl, rfl, trivial⟩ ?_
            exact ih q6.2 b2 b3 b9 q6.1 b8 (b9 + 1) (h_b3) h
          · have h := ifn c11 h
            refine m_blk 136 [(10, vl q6.1), (2, vi b2), (3, vr 1 b3), (5, vi b5), (6, vl b6), (8, vi b8), (9, vi b9)] [] C f_x_Mo_likeliest_109_1 rfl ?_
            refine m_blk 69 [(9, vi (b9 + 1)), (10, vl q6.1), (2, vi b2), (3, vr 1 b3), (5, vi b5), (6, vl b6), (8, vi b8)] [] C f_x_Mo_likeliest_136_2 rfl ?_
            refine m_loc [(2, vi b2), (3, vr 1 b3), (5, vi b5), (6, vl b6), (8, vi b8), (9, vi (b9 + 1))] ⟨rfl, rfl, rfl, rfl, rfl, rfl, trivial⟩ ?_
            exact ih q6.2 b2 b3 b5 b6 b8 (b9 + 1) (h_b3) h
        · have h := ifp c5 h
          refine m_blk 83 [(2, vi b2), (3, vr 1 b3), (5, vi b5), (6, vl b6), (8, vi b8), (9, vi b9)] [vr 1 b3] C f_x_Mo_likeliest_82_1 rfl ?_
          refine m_getrN C e_x_Mo_likeliest_83 fg_Mo_285 rfl (h_b3) rfl ?_
          refine m_blk 88 [(2, vi b2), (3, vr 1 b3), (5, vi b5), (6, vl b6), (8, vi b8), (9, vi b9)] [vi b9, vr 4 b3] C f_x_Mo_likeliest_86_1 rfl ?_
          obtain ⟨c13, h⟩ := igd h
          refine m_lald C e_x_Mo_likeliest_88 rfl (h_b3) (by decide) c13.1 c13.2 (A 4 b3 b9.toNat) rfl ?_
          refine m_blk 99 [(2, vi b2), (3, vr 1 b3), (5, vi b5), (6, vl b6), (8, vi b8), (9, vi b9)] [vl (A 4 b3 b9.toNat)] C f_x_Mo_likeliest_89_1 rfl ?_
          refine m_blk 105 [(10, vl (A 4 b3 b9.toNat)), (2, vi b2), (3, vr 1 b3), (5, vi b5), (6, vl b6), (8, vi b8), (9, vi b9)] [vl b6, vl (A 4 b3 b9.toNat)] C f_x_Mo_likeliest_99_3 rfl ?_
          obtain ⟨c14, h⟩ := igd h
          obtain ⟨c15, h⟩ := igd h
          refine m_lcmp C e_x_Mo_likeliest_105 c14 c15 (fun z16 hz16 => ?_)
          obtain rfl : z16 = lc (A 4 b3 b9.toNat) b6 := lc_of hz16
          refine m_if_gt (tgt := 112) C e_x_Mo_likeliest_106 (by decide) lc_r (fun c17 => ?_) (fun c17 => ?_)
          · have h := ifp c17 h
            refine m_blk 119 [(6, vl (A 4 b3 b9.toNat)), (10, vl (A 4 b3 b9.toNat)), (2, vi b2), (3, vr 1 b3), (5, vi b5), (8, vi b8), (9, vi b9)] [vi 6, vi b2] C f_x_Mo_likeliest_112_4 rfl ?_
            refine m_icmp_ne (tgt := 132) C e_x_Mo_likeliest_119 (by decide) c4 (by decide) (fun c18 => (by omega : False).elim) (fun c18 => ?_)
            refine m_blk 123 [(6, vl (A 4 b3 b9.toNat)), (10, vl (A 4 b3 b9.toNat)), (2, vi b2), (3, vr 1 b3), (5, vi b5), (8, vi b8), (9, vi b9)] [vr 1 b3] C f_x_Mo_likeliest_122_1 rfl ?_
            refine m_getrN C e_x_Mo_likeliest_123 fg_Mo_279 rfl (h_b3) rfl ?_
            refine m_blk 128 [(6, vl (A 4 b3 b9.toNat)), (10, vl (A 4 b3 b9.toNat)), (2, vi b2), (3, vr 1 b3), (5, vi b5), (8, vi b8), (9, vi b9)] [vi b9, vr 3 b3] C f_x_Mo_likeliest_126_1 rfl ?_
            refine m_iald C e_x_Mo_likeliest_128 rfl (h_b3) (by decide) c13.1 c13.2 (A 3 b3 b9.toNat) rfl ?_
            refine m_blk 134 [(6, vl (A 4 b3 b9.toNat)), (10, vl (A 4 b3 b9.toNat)), (2, vi b2), (3, vr 1 b3), (5, vi b5), (8, vi b8), (9, vi b9)] [vi (A 3 b3 b9.toNat)] C f_x_Mo_likeliest_129_1 rfl ?_
            refine m_blk 69 [(9, vi (b9 + 1)), (5, vi (A 3 b3 b9.toNat)), (6, vl (A 4 b3 b9.toNat)), (10, vl (A 4 b3 b9.toNat)), (2, vi b2), (3, vr 1 b3), (8, vi b8)] [] C f_x_Mo_likeliest_134_3 rfl ?_
            refine m_loc [(2, vi b2), (3, vr 1 b3), (5, vi (A 3 b3 b9.toNat)), (6, vl (A 4 b3 b9.toNat)), (8, vi b8), (9, vi (b9 + 1))] ⟨rfl, rfl, rfl, rfl, rfl, rfl, trivial⟩ ?_
            exact ih A b2 b3 (A 3 b3 b9.toNat) (A 4 b3 b9.toNat) b8 (b9 + 1) (h_b3) h
          · have h := ifn c17 h
            refine m_blk 136 [(10, vl (A 4 b3 b9.toNat)), (2, vi b2), (3, vr 1 b3), (5, vi b5), (6, vl b6), (8, vi b8), (9, vi b9)] [] C f_x_Mo_likeliest_109_1 rfl ?_
            refine m_blk 69 [(9, vi (b9 + 1)), (10, vl (A 4 b3 b9.toNat)), (2, vi b2), (3, vr 1 b3), (5, vi b5), (6, vl b6), (8, vi b8)] [] C f_x_Mo_likeliest_136_2 rfl ?_
            refine m_loc [(2, vi b2), (3, vr 1 b3), (5, vi b5), (6, vl b6), (8, vi b8), (9, vi (b9 + 1))] ⟨rfl, rfl, rfl, rfl, rfl, rfl, trivial⟩ ?_
            exact ih A b2 b3 b5 b6 b8 (b9 + 1) (h_b3) h
  show JM g D ad w0 A 0 [(0, vr 0 0), (1, vi a0), (2, vi a1)] []
  unfold f_Mo_likeliest at h
  refine m_blk 2 [(0, vr 0 0), (1, vi a0), (2, vi a1)] [vi a0, vr 0 0] C f_x_Mo_likeliest_0_2 rfl ?_
  obtain ⟨q19, e20, h⟩ := obd h
  refine m_callV C Rm Y [vi a0] [] (x_Mo_isProgram l D B H0 ad _ a0 hS _ _ e20) cl_Mo_364 rfl (by decide) rfl rfl e_x_Mo_likeliest_2 rfl rfl rfl ⟨by decide, by decide⟩ ?_
  rintro _ _ ⟨rfl, rfl⟩
  show JM g D ad w0 q19.2 5 [(0, vr 0 0), (1, vi a0), (2, vi a1)] [vi q19.1]
  obtain ⟨c21, h⟩ := igd h
  refine m_if_eq (tgt := 18) C e_x_Mo_likeliest_5 (by decide) c21 (fun c22 => ?_) (fun c22 => ?_)
  · have h := ifp c22 h
    refine m_blk 20 [(0, vr 0 0), (1, vi a0), (2, vi a1)] [vi (-2)] C f_x_Mo_likeliest_18_1 rfl ?_
    exact m_iret C Rm E e_x_Mo_likeliest_20 (fin1 h)
  · have h := ifn c22 h
    refine m_blk 12 [(0, vr 0 0), (1, vi a0), (2, vi a1)] [vi 6, vi 0, vi a1] C f_x_Mo_likeliest_8_3 rfl ?_
    obtain ⟨q23, e24, h⟩ := obd h
    refine m_callS C Rm Y [vi a1, vi 0, vi 6] [] (x_Mo_in l D B H0 ad _ a1 0 6 hS _ _ e24) cl_Mo_108 e_x_Mo_likeliest_12 rfl rfl rfl ⟨by decide, by decide⟩ ?_
    rintro _ _ ⟨rfl, rfl⟩
    show JM g D ad w0 q23.2 15 [(0, vr 0 0), (1, vi a0), (2, vi a1)] [vi q23.1]
    obtain ⟨c25, h⟩ := igd h
    refine m_if_ne (tgt := 21) C e_x_Mo_likeliest_15 (by decide) c25 (fun c26 => ?_) (fun c26 => ?_)
    · have h := ifn c26 h
      refine m_blk 24 [(0, vr 0 0), (1, vi a0), (2, vi a1)] [vi (-1), vi a0, vr 0 0] C f_x_Mo_likeliest_21_3 rfl ?_
      obtain ⟨q27, e28, h⟩ := obd h
      refine m_callV C Rm Y [vi a0, vi (-1)] [] (x_Mo_oddsO l D B H0 ad _ a0 (-1) hS _ _ e28) cl_Mo_367 rfl (by decide) rfl rfl e_x_Mo_likeliest_24 rfl rfl rfl ⟨by decide, by decide⟩ ?_
      rintro _ _ ⟨rfl, rfl, g29⟩
      show JM g D ad w0 q27.2 27 [(0, vr 0 0), (1, vi a0), (2, vi a1)] [vr 1 q27.1.toNat]
      refine m_blk 30 [(3, vr 1 q27.1.toNat), (0, vr 0 0), (1, vi a0), (2, vi a1)] [vr 1 q27.1.toNat, vr 0 0] C f_x_Mo_likeliest_27_3 rfl ?_
      obtain ⟨q30, e31, h⟩ := obd h
      refine m_callV C Rm Y [vr 1 q27.1.toNat] [] (x_Mo_against l D B H0 ad _ q27.1.toNat (g29) hS _ _ e31) cl_Mo_380 rfl (by decide) rfl rfl e_x_Mo_likeliest_30 rfl rfl rfl ⟨by decide, by decide⟩ ?_
      rintro _ _ ⟨rfl, rfl⟩
      show JM g D ad w0 q30.2 33 [(3, vr 1 q27.1.toNat), (0, vr 0 0), (1, vi a0), (2, vi a1)] [vi q30.1]
      refine m_blk 37 [(4, vi q30.1), (3, vr 1 q27.1.toNat), (0, vr 0 0), (1, vi a0), (2, vi a1)] [vi q30.1] C f_x_Mo_likeliest_33_2 rfl ?_
      obtain ⟨c32, h⟩ := igd h
      refine m_if_eq (tgt := 43) C e_x_Mo_likeliest_37 (by decide) c32 (fun c33 => ?_) (fun c33 => ?_)
      · have h := ifp c33 h
        refine m_blk 52 [(6, vl 0), (5, vi (-1)), (4, vi q30.1), (3, vr 1 q27.1.toNat), (0, vr 0 0), (1, vi a0), (2, vi a1)] [vi 6, vi a1] C f_x_Mo_likeliest_43_6 rfl ?_
        obtain ⟨c34, h⟩ := igd h
        refine m_icmp_ne (tgt := 62) C e_x_Mo_likeliest_52 (by decide) c34 (by decide) (fun c35 => ?_) (fun c35 => ?_)
        · have h := ifn c35 h
          refine m_blk 69 [(9, vi 0), (8, vi 10), (6, vl 0), (5, vi (-1)), (4, vi q30.1), (3, vr 1 q27.1.toNat), (0, vr 0 0), (1, vi a0), (2, vi a1)] [] C f_x_Mo_likeliest_62_4 rfl ?_
          refine m_loc [(2, vi a1), (3, vr 1 q27.1.toNat), (5, vi (-1)), (6, vl 0), (8, vi 10), (9, vi 0)] ⟨rfl, rfl, rfl, rfl, rfl, rfl, trivial⟩ ?_
          exact hd_69 _ q30.2 a1 q27.1.toNat (-1) 0 10 0 (g29) h
        · have h := ifp c35 h
          refine m_blk 56 [(6, vl 0), (5, vi (-1)), (4, vi q30.1), (3, vr 1 q27.1.toNat), (0, vr 0 0), (1, vi a0), (2, vi a1)] [vr 1 q27.1.toNat] C f_x_Mo_likeliest_55_1 rfl ?_
          refine m_getiN C e_x_Mo_likeliest_56 fg_Mo_272 rfl (g29) rfl (q30.2 1 q27.1.toNat 2) rfl ?_
          refine m_blk 64 [(6, vl 0), (5, vi (-1)), (4, vi q30.1), (3, vr 1 q27.1.toNat), (0, vr 0 0), (1, vi a0), (2, vi a1)] [vi (q30.2 1 q27.1.toNat 2)] C f_x_Mo_likeliest_59_1 rfl ?_
          refine m_blk 69 [(9, vi 0), (8, vi (q30.2 1 q27.1.toNat 2)), (6, vl 0), (5, vi (-1)), (4, vi q30.1), (3, vr 1 q27.1.toNat), (0, vr 0 0), (1, vi a0), (2, vi a1)] [] C f_x_Mo_likeliest_64_3 rfl ?_
          refine m_loc [(2, vi a1), (3, vr 1 q27.1.toNat), (5, vi (-1)), (6, vl 0), (8, vi (q30.2 1 q27.1.toNat 2)), (9, vi 0)] ⟨rfl, rfl, rfl, rfl, rfl, rfl, trivial⟩ ?_
          exact hd_69 _ q30.2 a1 q27.1.toNat (-1) 0 (q30.2 1 q27.1.toNat 2) 0 (g29) h
      · have h := ifn c33 h
        refine m_blk 42 [(4, vi q30.1), (3, vr 1 q27.1.toNat), (0, vr 0 0), (1, vi a0), (2, vi a1)] [vi q30.1] C f_x_Mo_likeliest_40_1 rfl ?_
        exact m_iret C Rm E e_x_Mo_likeliest_42 (fin1 h)
    · have h := ifp c26 h
      refine m_blk 20 [(0, vr 0 0), (1, vi a0), (2, vi a1)] [vi (-2)] C f_x_Mo_likeliest_18_1 rfl ?_
      exact m_iret C Rm E e_x_Mo_likeliest_20 (fin1 h)

def f_Mo_apart_79 (c_59 : mA → Int → Int → Nat → Int → Int → Option (Int × mA)) : Nat → mA → Int → Int → Nat → Int → Int → Int → Int → Option (Int × mA)
  | 0, _, _, _, _, _, _, _, _ => none
  | n + 1, A, b2, b3, b4, b6, b8, b9, b11 => (if g32 b11 then (if 10 ≤ b11 then (c_59 A b2 b3 b4 b6 (b8 + 1)) else (if g64 b9 then (if (lc b9 0) ≤ 0 then (c_59 A b2 b3 b4 b6 (b8 + 1)) else (Option.bind (f_Mo_both A b4 b2 b8 b3 b11) (fun q6 => (Option.bind (f_Mo_weightOf q6.2 b4 b3 b11) (fun q8 => (Option.bind (f_Mo_areSame q8.2 q6.1 b9 q8.1 b6) (fun q10 => (if g32 q10.1 then (if q10.1 = 0 then (some (0, q10.2)) else (f_Mo_apart_79  c_59 n q10.2 b2 b3 b4 b6 b8 b9 (b11 + 1))) else none)))))))) else none)) else none)
def f_Mo_apart_59 : Nat → mA → Int → Int → Nat → Int → Int → Option (Int × mA)
  | 0, _, _, _, _, _, _ => none
  | n + 1, A, b2, b3, b4, b6, b8 => (if g32 b8 then (if 10 ≤ b8 then (some (1, A)) else (Option.bind (f_Mo_weightOf A b4 b2 b8) (fun q16 => (f_Mo_apart_79  (f_Mo_apart_59   n) 20 q16.2 b2 b3 b4 b6 b8 q16.1 0)))) else none)
def f_Mo_apart (A : mA) (a0 : Int) (a1 : Int) (a2 : Int) : Option (Int × mA) := (Option.bind (f_Mo_isProgram A a0) (fun q18 => (if g32 q18.1 then (if q18.1 = 0 then (some ((-2), q18.2)) else (Option.bind (f_Mo_isName q18.2 a1) (fun q22 => (if g32 q22.1 then (if q22.1 = 0 then (some ((-2), q22.2)) else (Option.bind (f_Mo_isName q22.2 a2) (fun q26 => (if g32 q26.1 then (if q26.1 = 0 then (some ((-2), q26.2)) else (Option.bind (f_Mo_oddsO q26.2 a0 (-1)) (fun q30 => (Option.bind (f_Mo_against q30.2 q30.1.toNat) (fun q33 => (if g32 q33.1 then (if q33.1 = 0 then (Option.bind (f_Odds_all q33.2 q30.1.toNat) (fun q37 => (f_Mo_apart_59  20 q37.2 a1 a2 q30.1.toNat q37.1 0))) else (some (q33.1, q33.2))) else none)))))) else none)))) else none)))) else none)))
theorem f_x_Mo_apart_0_2 : mblkB b_Mo_apart [(0, .aload_n 0, vi 0), (1, .iload_n 1, vi 0)] = true := by decide +kernel
theorem e_x_Mo_apart_2 : decode b_Mo_apart 2 = .ok (.invokevirtual 364, 3) := by decide +kernel
theorem e_x_Mo_apart_5 : decode b_Mo_apart 5 = .ok (.ifCond .eq 17, 3) := by decide +kernel
theorem f_x_Mo_apart_22_1 : mblkB b_Mo_apart [(22, .bipush (-2), vi (-2))] = true := by decide +kernel
theorem e_x_Mo_apart_24 : decode b_Mo_apart 24 = .ok (.ireturn, 1) := by decide +kernel
theorem f_x_Mo_apart_8_1 : mblkB b_Mo_apart [(8, .iload_n 2, vi 0)] = true := by decide +kernel
theorem e_x_Mo_apart_9 : decode b_Mo_apart 9 = .ok (.invokestatic 254, 3) := by decide +kernel
theorem e_x_Mo_apart_12 : decode b_Mo_apart 12 = .ok (.ifCond .eq 10, 3) := by decide +kernel
theorem f_x_Mo_apart_15_1 : mblkB b_Mo_apart [(15, .iload_n 3, vi 0)] = true := by decide +kernel
theorem e_x_Mo_apart_16 : decode b_Mo_apart 16 = .ok (.invokestatic 254, 3) := by decide +kernel
theorem e_x_Mo_apart_19 : decode b_Mo_apart 19 = .ok (.ifCond .ne 6, 3) := by decide +kernel
theorem f_x_Mo_apart_25_3 : mblkB b_Mo_apart [(25, .aload_n 0, vi 0), (26, .iload_n 1, vi 0), (27, .iconst (-1), vi (-1))] = true := by decide +kernel
theorem e_x_Mo_apart_28 : decode b_Mo_apart 28 = .ok (.invokevirtual 367, 3) := by decide +kernel
theorem f_x_Mo_apart_31_3 : mblkB b_Mo_apart [(31, .astore 4, vi 0), (33, .aload_n 0, vi 0), (34, .aload 4, vi 0)] = true := by decide +kernel
theorem e_x_Mo_apart_36 : decode b_Mo_apart 36 = .ok (.invokevirtual 380, 3) := by decide +kernel
theorem f_x_Mo_apart_39_2 : mblkB b_Mo_apart [(39, .istore 5, vi 0), (41, .iload 5, vi 0)] = true := by decide +kernel
theorem e_x_Mo_apart_43 : decode b_Mo_apart 43 = .ok (.ifCond .eq 6, 3) := by decide +kernel
theorem f_x_Mo_apart_49_1 : mblkB b_Mo_apart [(49, .aload 4, vi 0)] = true := by decide +kernel
theorem e_x_Mo_apart_51 : decode b_Mo_apart 51 = .ok (.invokevirtual 372, 3) := by decide +kernel
theorem f_x_Mo_apart_54_3 : mblkB b_Mo_apart [(54, .lstore 6, vi 0), (56, .iconst 0, vi 0), (57, .istore 8, vi 0)] = true := by decide +kernel
theorem f_x_Mo_apart_46_1 : mblkB b_Mo_apart [(46, .iload 5, vi 0)] = true := by decide +kernel
theorem e_x_Mo_apart_48 : decode b_Mo_apart 48 = .ok (.ireturn, 1) := by decide +kernel
theorem f_x_Mo_apart_59_2 : mblkB b_Mo_apart [(59, .iload 8, vi 0), (61, .bipush 10, vi 10)] = true := by decide +kernel
theorem e_x_Mo_apart_63 : decode b_Mo_apart 63 = .ok (.if_icmp .ge 73, 3) := by decide +kernel
theorem f_x_Mo_apart_136_1 : mblkB b_Mo_apart [(136, .iconst 1, vi 1)] = true := by decide +kernel
theorem e_x_Mo_apart_137 : decode b_Mo_apart 137 = .ok (.ireturn, 1) := by decide +kernel
theorem f_x_Mo_apart_66_3 : mblkB b_Mo_apart [(66, .aload 4, vi 0), (68, .iload_n 2, vi 0), (69, .iload 8, vi 0)] = true := by decide +kernel
theorem e_x_Mo_apart_71 : decode b_Mo_apart 71 = .ok (.invokestatic 384, 3) := by decide +kernel
theorem f_x_Mo_apart_74_3 : mblkB b_Mo_apart [(74, .lstore 9, vi 0), (76, .iconst 0, vi 0), (77, .istore 11, vi 0)] = true := by decide +kernel
theorem f_x_Mo_apart_79_2 : mblkB b_Mo_apart [(79, .iload 11, vi 0), (81, .bipush 10, vi 10)] = true := by decide +kernel
theorem e_x_Mo_apart_83 : decode b_Mo_apart 83 = .ok (.if_icmp .ge 47, 3) := by decide +kernel
theorem f_x_Mo_apart_130_2 : mblkB b_Mo_apart [(130, .iinc 8 1, vi 1), (133, .goto (-74), vi 59)] = true := by decide +kernel
theorem f_x_Mo_apart_86_2 : mblkB b_Mo_apart [(86, .lload 9, vi 0), (88, .lconst 0, vl 0)] = true := by decide +kernel
theorem e_x_Mo_apart_89 : decode b_Mo_apart 89 = .ok (.lcmp, 1) := by decide +kernel
theorem e_x_Mo_apart_90 : decode b_Mo_apart 90 = .ok (.ifCond .le 40, 3) := by decide +kernel
theorem f_x_Mo_apart_93_5 : mblkB b_Mo_apart [(93, .aload 4, vi 0), (95, .iload_n 2, vi 0), (96, .iload 8, vi 0), (98, .iload_n 3, vi 0), (99, .iload 11, vi 0)] = true := by decide +kernel
theorem e_x_Mo_apart_101 : decode b_Mo_apart 101 = .ok (.invokestatic 392, 3) := by decide +kernel
theorem f_x_Mo_apart_104_4 : mblkB b_Mo_apart [(104, .lload 9, vi 0), (106, .aload 4, vi 0), (108, .iload_n 3, vi 0), (109, .iload 11, vi 0)] = true := by decide +kernel
theorem e_x_Mo_apart_111 : decode b_Mo_apart 111 = .ok (.invokestatic 384, 3) := by decide +kernel
theorem f_x_Mo_apart_114_1 : mblkB b_Mo_apart [(114, .lload 6, vi 0)] = true := by decide +kernel
theorem e_x_Mo_apart_116 : decode b_Mo_apart 116 = .ok (.invokestatic 396, 3) := by decide +kernel
theorem e_x_Mo_apart_119 : decode b_Mo_apart 119 = .ok (.ifCond .ne 5, 3) := by decide +kernel
theorem f_x_Mo_apart_124_2 : mblkB b_Mo_apart [(124, .iinc 11 1, vi 1), (127, .goto (-48), vi 79)] = true := by decide +kernel
theorem f_x_Mo_apart_122_1 : mblkB b_Mo_apart [(122, .iconst 0, vi 0)] = true := by decide +kernel
theorem e_x_Mo_apart_123 : decode b_Mo_apart 123 = .ok (.ireturn, 1) := by decide +kernel
set_option maxHeartbeats 4000000 in
set_option maxRecDepth 20000 in
theorem x_Mo_apart  : ∀ (l : Launch) (D : va_G) (B : Nat) (H0 : Heap) (ad : mAd) (A : mA) (a0 : Int) (a1 : Int) (a2 : Int) (hS : mStr D ad) (r9 : Int) (A9 : mA), f_Mo_apart  A a0 a1 a2 = some (r9, A9) → mMet l D B H0 ad y_Mo_apart b_Mo_apart 12 (some .int) 1083 35675 [vr 0 0, vi a0, vi a1, vi a2] A (fun v A' => v = some (vi r9) ∧ A' = A9) := by
  intro l D B H0 ad A a0 a1 a2  hS r9 A9 h
  refine m_met (by decide) rfl (fun g w0 C Rm Y E => ?_)
  have hd_79 : ∀ (c_59 : mA → Int → Int → Nat → Int → Int → Option (Int × mA)) (hc_59 : ∀ (A : mA) (b2 : Int) (b3 : Int) (b4 : Nat) (b6 : Int) (b8 : Int) , b4 < 200 → c_59 A b2 b3 b4 b6 b8 = some (r9, A9) → JM g D ad w0 A 59 [(2, vi b2), (3, vi b3), (4, vr 1 b4), (6, vl b6), (8, vi b8)] []) (n : Nat) (A : mA) (b2 : Int) (b3 : Int) (b4 : Nat) (b6 : Int) (b8 : Int) (b9 : Int) (b11 : Int) , b4 < 200 → f_Mo_apart_79  c_59 n A b2 b3 b4 b6 b8 b9 b11 = some (r9, A9) → JM g D ad w0 A 79 [(2, vi b2), (3, vi b3), (4, vr 1 b4), (6, vl b6), (8, vi b8), (9, vl b9), (11, vi b11)] [] := by
    intro c_59 hc_59 n
    induction n with
    | zero => intro A b2 b3 b4 b6 b8 b9 b11 h_b4 h; cases h
    | succ n ih =>
      intro A b2 b3 b4 b6 b8 b9 b11 h_b4 h
      unfold f_Mo_apart_79 at h
      refine m_blk 83 [(2, vi b2), (3, vi b3), (4, vr 1 b4), (6, vl b6), (8, vi b8), (9, vl b9), (11, vi b11)] [vi 10, vi b11] C f_x_Mo_apart_79_2 rfl ?_
      obtain ⟨c1, h⟩ := igd h
      refine m_icmp_ge (tgt := 130) C e_x_Mo_apart_83 (by decide) c1 (by decide) (fun c2 => ?_) (fun c2 => ?_)
      · have h := ifp c2 h
        refine m_blk 59 [(8, vi (b8 + 1)), (2, vi b2), (3, vi b3), (4, vr 1 b4), (6, vl b6), (9, vl b9), (11, vi b11)] [] C f_x_Mo_apart_130_2 rfl ?_
        refine m_loc [(2, vi b2), (3, vi b3), (4, vr 1 b4), (6, vl b6), (8, vi (b8 + 1))] ⟨rfl, rfl, rfl, rfl, rfl, trivial⟩ ?_
        exact hc_59 A b2 b3 b4 b6 (b8 + 1) (h_b4) h
      · have h := ifn c2 h
        refine m_blk 89 [(2, vi b2), (3, vi b3), (4, vr 1 b4), (6, vl b6), (8, vi b8), (9, vl b9), (11, vi b11)] [vl 0, vl b9] C f_x_Mo_apart_86_2 rfl ?_
        obtain ⟨c3, h⟩ := igd h
        refine m_lcmp C e_x_Mo_apart_89 c3 (by decide) (fun z4 hz4 => ?_)
        obtain rfl : z4 = lc b9 0 := lc_of hz4
        refine m_if_le (tgt := 130) C e_x_Mo_apart_90 (by decide) lc_r (fun c5 => ?_) (fun c5 => ?_)
        · have h := ifp c5 h
          refine m_blk 59 [(8, vi (b8 + 1)), (2, vi b2), (3, vi b3), (4, vr 1 b4), (6, vl b6), (9, vl b9), (11, vi b11)] [] C f_x_Mo_apart_130_2 rfl ?_
          refine m_loc [(2, vi b2), (3, vi b3), (4, vr 1 b4), (6, vl b6), (8, vi (b8 + 1))] ⟨rfl, rfl, rfl, rfl, rfl, trivial⟩ ?_
          exact hc_59 A b2 b3 b4 b6 (b8 + 1) (h_b4) h
        · have h := ifn c5 h
          refine m_blk 101 [(2, vi b2), (3, vi b3), (4, vr 1 b4), (6, vl b6), (8, vi b8), (9, vl b9), (11, vi b11)] [vi b11, vi b3, vi b8, vi b2, vr 1 b4] C f_x_Mo_apart_93_5 rfl ?_
          obtain ⟨q6, e7, h⟩ := obd h
          refine m_callS C Rm Y [vr 1 b4, vi b2, vi b8, vi b3, vi b11] [] (x_Mo_both l D B H0 ad _ b4 b2 b8 b3 b11 (h_b4) hS _ _ e7) cl_Mo_392 e_x_Mo_apart_101 rfl rfl rfl ⟨by decide, by decide⟩ ?_
          rintro _ _ ⟨rfl, rfl⟩
          show JM g D ad w0 q6.2 104 [(2, vi b2), (3, vi b3), (4, vr 1 b4), (6, vl b6), (8, vi b8), (9, vl b9), (11, vi b11)] [vl q6.1]
          refine m_blk 111 [(2, vi b2), (3, vi b3), (4, vr 1 b4), (6, vl b6), (8, vi b8), (9, vl b9), (11, vi b11)] [vi b11, vi b3, vr 1 b4, vl b9, vl q6.1] C f_x_Mo_apart_104_4 rfl ?_
          obtain ⟨q8, e9, h⟩ := obd h
          refine m_callS C Rm Y [vr 1 b4, vi b3, vi b11] [vl b9, vl q6.1] (x_Mo_weightOf l D B H0 ad _ b4 b3 b11 (h_b4) hS _ _ e9) cl_Mo_384 e_x_Mo_apart_111 rfl rfl rfl ⟨by decide, by decide⟩ ?_
          rintro _ _ ⟨rfl, rfl⟩
          show JM g D ad w0 q8.2 114 [(2, vi b2), (3, vi b3), (4, vr 1 b4), (6, vl b6), (8, vi b8), (9, vl b9), (11, vi b11)] [vl q8.1, vl b9, vl q6.1]
          refine m_blk 116 [(2, vi b2), (3, vi b3), (4, vr 1 b4), (6, vl b6), (8, vi b8), (9, vl b9), (11, vi b11)] [vl b6, vl q8.1, vl b9, vl q6.1] C f_x_Mo_apart_114_1 rfl ?_
          obtain ⟨q10, e11, h⟩ := obd h
          refine m_callS C Rm Y [vl q6.1, vl b9, vl q8.1, vl b6] [] (x_Mo_areSame l D B H0 ad _ q6.1 b9 q8.1 b6 hS _ _ e11) cl_Mo_396 e_x_Mo_apart_116 rfl rfl rfl ⟨by decide, by decide⟩ ?_
          rintro _ _ ⟨rfl, rfl⟩
          show JM g D ad w0 q10.2 119 [(2, vi b2), (3, vi b3), (4, vr 1 b4), (6, vl b6), (8, vi b8), (9, vl b9), (11, vi b11)] [vi q10.1]
          obtain ⟨c12, h⟩ := igd h
          refine m_if_ne (tgt := 124) C e_x_Mo_apart_119 (by decide) c12 (fun c13 => ?_) (fun c13 => ?_)
          · have h := ifn c13 h
            refine m_blk 79 [(11, vi (b11 + 1)), (2, vi b2), (3, vi b3), (4, vr 1 b4), (6, vl b6), (8, vi b8), (9, vl b9)] [] C f_x_Mo_apart_124_2 rfl ?_
            refine m_loc [(2, vi b2), (3, vi b3), (4, vr 1 b4), (6, vl b6), (8, vi b8), (9, vl b9), (11, vi (b11 + 1))] ⟨rfl, rfl, rfl, rfl, rfl, rfl, rfl, trivial⟩ ?_
            exact ih q10.2 b2 b3 b4 b6 b8 b9 (b11 + 1) (h_b4) h
          · have h := ifp c13 h
            refine m_blk 123 [(2, vi b2), (3, vi b3), (4, vr 1 b4), (6, vl b6), (8, vi b8), (9, vl b9), (11, vi b11)] [vi 0] C f_x_Mo_apart_122_1 rfl ?_
            exact m_iret C Rm E e_x_Mo_apart_123 (fin1 h)
  have hd_59 : ∀ (n : Nat) (A : mA) (b2 : Int) (b3 : Int) (b4 : Nat) (b6 : Int) (b8 : Int) , b4 < 200 → f_Mo_apart_59   n A b2 b3 b4 b6 b8 = some (r9, A9) → JM g D ad w0 A 59 [(2, vi b2), (3, vi b3), (4, vr 1 b4), (6, vl b6), (8, vi b8)] [] := by
    intro  n
    induction n with
    | zero => intro A b2 b3 b4 b6 b8 h_b4 h; cases h
    | succ n ih =>
      intro A b2 b3 b4 b6 b8 h_b4 h
      unfold f_Mo_apart_59 at h
      refine m_blk 63 [(2, vi b2), (3, vi b3), (4, vr 1 b4), (6, vl b6), (8, vi b8)] [vi 10, vi b8] C f_x_Mo_apart_59_2 rfl ?_
      obtain ⟨c14, h⟩ := igd h
      refine m_icmp_ge (tgt := 136) C e_x_Mo_apart_63 (by decide) c14 (by decide) (fun c15 => ?_) (fun c15 => ?_)
      · have h := ifp c15 h
        refine m_blk 137 [(2, vi b2), (3, vi b3), (4, vr 1 b4), (6, vl b6), (8, vi b8)] [vi 1] C f_x_Mo_apart_136_1 rfl ?_
        exact m_iret C Rm E e_x_Mo_apart_137 (fin1 h)
      · have h := ifn c15 h
        refine m_blk 71 [(2, vi b2), (3, vi b3), (4, vr 1 b4), (6, vl b6), (8, vi b8)] [vi b8, vi b2, vr 1 b4] C f_x_Mo_apart_66_3 rfl ?_
        obtain ⟨q16, e17, h⟩ := obd h
        refine m_callS C Rm Y [vr 1 b4, vi b2, vi b8] [] (x_Mo_weightOf l D B H0 ad _ b4 b2 b8 (h_b4) hS _ _ e17) cl_Mo_384 e_x_Mo_apart_71 rfl rfl rfl ⟨by decide, by decide⟩ ?_
        rintro _ _ ⟨rfl, rfl⟩
        show JM g D ad w0 q16.2 74 [(2, vi b2), (3, vi b3), (4, vr 1 b4), (6, vl b6), (8, vi b8)] [vl q16.1]
        refine m_blk 79 [(11, vi 0), (9, vl q16.1), (2, vi b2), (3, vi b3), (4, vr 1 b4), (6, vl b6), (8, vi b8)] [] C f_x_Mo_apart_74_3 rfl ?_
        refine m_loc [(2, vi b2), (3, vi b3), (4, vr 1 b4), (6, vl b6), (8, vi b8), (9, vl q16.1), (11, vi 0)] ⟨rfl, rfl, rfl, rfl, rfl, rfl, rfl, trivial⟩ ?_
        exact hd_79 (f_Mo_apart_59   n) ih _ q16.2 b2 b3 b4 b6 b8 q16.1 0 (h_b4) h
  show JM g D ad w0 A 0 [(0, vr 0 0), (1, vi a0), (2, vi a1), (3, vi a2)] []
  unfold f_Mo_apart at h
  refine m_blk 2 [(0, vr 0 0), (1, vi a0), (2, vi a1), (3, vi a2)] [vi a0, vr 0 0] C f_x_Mo_apart_0_2 rfl ?_
  obtain ⟨q18, e19, h⟩ := obd h
  refine m_callV C Rm Y [vi a0] [] (x_Mo_isProgram l D B H0 ad _ a0 hS _ _ e19) cl_Mo_364 rfl (by decide) rfl rfl e_x_Mo_apart_2 rfl rfl rfl ⟨by decide, by decide⟩ ?_
  rintro _ _ ⟨rfl, rfl⟩
  show JM g D ad w0 q18.2 5 [(0, vr 0 0), (1, vi a0), (2, vi a1), (3, vi a2)] [vi q18.1]
  obtain ⟨c20, h⟩ := igd h
  refine m_if_eq (tgt := 22) C e_x_Mo_apart_5 (by decide) c20 (fun c21 => ?_) (fun c21 => ?_)
  · have h := ifp c21 h
    refine m_blk 24 [(0, vr 0 0), (1, vi a0), (2, vi a1), (3, vi a2)] [vi (-2)] C f_x_Mo_apart_22_1 rfl ?_
    exact m_iret C Rm E e_x_Mo_apart_24 (fin1 h)
  · have h := ifn c21 h
    refine m_blk 9 [(0, vr 0 0), (1, vi a0), (2, vi a1), (3, vi a2)] [vi a1] C f_x_Mo_apart_8_1 rfl ?_
    obtain ⟨q22, e23, h⟩ := obd h
    refine m_callS C Rm Y [vi a1] [] (x_Mo_isName l D B H0 ad _ a1 hS _ _ e23) cl_Mo_254 e_x_Mo_apart_9 rfl rfl rfl ⟨by decide, by decide⟩ ?_
    rintro _ _ ⟨rfl, rfl⟩
    show JM g D ad w0 q22.2 12 [(0, vr 0 0), (1, vi a0), (2, vi a1), (3, vi a2)] [vi q22.1]
    obtain ⟨c24, h⟩ := igd h
    refine m_if_eq (tgt := 22) C e_x_Mo_apart_12 (by decide) c24 (fun c25 => ?_) (fun c25 => ?_)
    · have h := ifp c25 h
      refine m_blk 24 [(0, vr 0 0), (1, vi a0), (2, vi a1), (3, vi a2)] [vi (-2)] C f_x_Mo_apart_22_1 rfl ?_
      exact m_iret C Rm E e_x_Mo_apart_24 (fin1 h)
    · have h := ifn c25 h
      refine m_blk 16 [(0, vr 0 0), (1, vi a0), (2, vi a1), (3, vi a2)] [vi a2] C f_x_Mo_apart_15_1 rfl ?_
      obtain ⟨q26, e27, h⟩ := obd h
      refine m_callS C Rm Y [vi a2] [] (x_Mo_isName l D B H0 ad _ a2 hS _ _ e27) cl_Mo_254 e_x_Mo_apart_16 rfl rfl rfl ⟨by decide, by decide⟩ ?_
      rintro _ _ ⟨rfl, rfl⟩
      show JM g D ad w0 q26.2 19 [(0, vr 0 0), (1, vi a0), (2, vi a1), (3, vi a2)] [vi q26.1]
      obtain ⟨c28, h⟩ := igd h
      refine m_if_ne (tgt := 25) C e_x_Mo_apart_19 (by decide) c28 (fun c29 => ?_) (fun c29 => ?_)
      · have h := ifn c29 h
        refine m_blk 28 [(0, vr 0 0), (1, vi a0), (2, vi a1), (3, vi a2)] [vi (-1), vi a0, vr 0 0] C f_x_Mo_apart_25_3 rfl ?_
        obtain ⟨q30, e31, h⟩ := obd h
        refine m_callV C Rm Y [vi a0, vi (-1)] [] (x_Mo_oddsO l D B H0 ad _ a0 (-1) hS _ _ e31) cl_Mo_367 rfl (by decide) rfl rfl e_x_Mo_apart_28 rfl rfl rfl ⟨by decide, by decide⟩ ?_
        rintro _ _ ⟨rfl, rfl, g32⟩
        show JM g D ad w0 q30.2 31 [(0, vr 0 0), (1, vi a0), (2, vi a1), (3, vi a2)] [vr 1 q30.1.toNat]
        refine m_blk 36 [(4, vr 1 q30.1.toNat), (0, vr 0 0), (1, vi a0), (2, vi a1), (3, vi a2)] [vr 1 q30.1.toNat, vr 0 0] C f_x_Mo_apart_31_3 rfl ?_
        obtain ⟨q33, e34, h⟩ := obd h
        refine m_callV C Rm Y [vr 1 q30.1.toNat] [] (x_Mo_against l D B H0 ad _ q30.1.toNat (g32) hS _ _ e34) cl_Mo_380 rfl (by decide) rfl rfl e_x_Mo_apart_36 rfl rfl rfl ⟨by decide, by decide⟩ ?_
        rintro _ _ ⟨rfl, rfl⟩
        show JM g D ad w0 q33.2 39 [(4, vr 1 q30.1.toNat), (0, vr 0 0), (1, vi a0), (2, vi a1), (3, vi a2)] [vi q33.1]
        refine m_blk 43 [(5, vi q33.1), (4, vr 1 q30.1.toNat), (0, vr 0 0), (1, vi a0), (2, vi a1), (3, vi a2)] [vi q33.1] C f_x_Mo_apart_39_2 rfl ?_
        obtain ⟨c35, h⟩ := igd h
        refine m_if_eq (tgt := 49) C e_x_Mo_apart_43 (by decide) c35 (fun c36 => ?_) (fun c36 => ?_)
        · have h := ifp c36 h
          refine m_blk 51 [(5, vi q33.1), (4, vr 1 q30.1.toNat), (0, vr 0 0), (1, vi a0), (2, vi a1), (3, vi a2)] [vr 1 q30.1.toNat] C f_x_Mo_apart_49_1 rfl ?_
          obtain ⟨q37, e38, h⟩ := obd h
          refine m_callV C Rm Y [] [] (x_Odds_all l D B H0 ad _ q30.1.toNat (g32) hS _ _ e38) cl_Mo_372 rfl (g32) rfl rfl e_x_Mo_apart_51 rfl rfl rfl ⟨by decide, by decide⟩ ?_
          rintro _ _ ⟨rfl, rfl⟩
          show JM g D ad w0 q37.2 54 [(5, vi q33.1), (4, vr 1 q30.1.toNat), (0, vr 0 0), (1, vi a0), (2, vi a1), (3, vi a2)] [vl q37.1]
          refine m_blk 59 [(8, vi 0), (6, vl q37.1), (5, vi q33.1), (4, vr 1 q30.1.toNat), (0, vr 0 0), (1, vi a0), (2, vi a1), (3, vi a2)] [] C f_x_Mo_apart_54_3 rfl ?_
          refine m_loc [(2, vi a1), (3, vi a2), (4, vr 1 q30.1.toNat), (6, vl q37.1), (8, vi 0)] ⟨rfl, rfl, rfl, rfl, rfl, trivial⟩ ?_
          exact hd_59 _ q37.2 a1 a2 q30.1.toNat q37.1 0 (g32) h
        · have h := ifn c36 h
          refine m_blk 48 [(5, vi q33.1), (4, vr 1 q30.1.toNat), (0, vr 0 0), (1, vi a0), (2, vi a1), (3, vi a2)] [vi q33.1] C f_x_Mo_apart_46_1 rfl ?_
          exact m_iret C Rm E e_x_Mo_apart_48 (fin1 h)
      · have h := ifp c29 h
        refine m_blk 24 [(0, vr 0 0), (1, vi a0), (2, vi a1), (3, vi a2)] [vi (-2)] C f_x_Mo_apart_22_1 rfl ?_
        exact m_iret C Rm E e_x_Mo_apart_24 (fin1 h)

def f_Mo_peak (A : mA) (a0 : Int) (a1 : Int) : Option (Int × mA) := (Option.bind (f_Mo_isProgram A a0) (fun q1 => (if g32 q1.1 then (if q1.1 = 0 then (some ((-2), q1.2)) else (Option.bind (f_Mo_in q1.2 a1 (-1) 63) (fun q5 => (if g32 q5.1 then (if q5.1 = 0 then (some ((-2), q5.2)) else (Option.bind (f_Mo_oddsO q5.2 a0 (-1)) (fun q9 => (if g32 (q9.2 0 0 34) then (if (q9.2 0 0 34) = 0 then (if g32 a1 then (if a1 = (-1) then (some ((q9.2 0 0 35), q9.2)) else (Option.bind (f_Mo_oddsO q9.2 a0 a1) (fun q16 => (some ((q16.2 0 0 35), q16.2))))) else none) else (some ((-6), q9.2))) else none)))) else none)))) else none)))
theorem f_x_Mo_peak_0_2 : mblkB b_Mo_peak [(0, .aload_n 0, vi 0), (1, .iload_n 1, vi 0)] = true := by decide +kernel
theorem e_x_Mo_peak_2 : decode b_Mo_peak 2 = .ok (.invokevirtual 364, 3) := by decide +kernel
theorem e_x_Mo_peak_5 : decode b_Mo_peak 5 = .ok (.ifCond .eq 13, 3) := by decide +kernel
theorem f_x_Mo_peak_18_1 : mblkB b_Mo_peak [(18, .bipush (-2), vi (-2))] = true := by decide +kernel
theorem e_x_Mo_peak_20 : decode b_Mo_peak 20 = .ok (.ireturn, 1) := by decide +kernel
theorem f_x_Mo_peak_8_3 : mblkB b_Mo_peak [(8, .iload_n 2, vi 0), (9, .iconst (-1), vi (-1)), (10, .bipush 63, vi 63)] = true := by decide +kernel
theorem e_x_Mo_peak_12 : decode b_Mo_peak 12 = .ok (.invokestatic 108, 3) := by decide +kernel
theorem e_x_Mo_peak_15 : decode b_Mo_peak 15 = .ok (.ifCond .ne 6, 3) := by decide +kernel
theorem f_x_Mo_peak_21_3 : mblkB b_Mo_peak [(21, .aload_n 0, vi 0), (22, .iload_n 1, vi 0), (23, .iconst (-1), vi (-1))] = true := by decide +kernel
theorem e_x_Mo_peak_24 : decode b_Mo_peak 24 = .ok (.invokevirtual 367, 3) := by decide +kernel
theorem f_x_Mo_peak_27_2 : mblkB b_Mo_peak [(27, .astore_n 3, vi 0), (28, .aload_n 0, vi 0)] = true := by decide +kernel
theorem e_x_Mo_peak_29 : decode b_Mo_peak 29 = .ok (.getfield 297, 3) := by decide +kernel
theorem e_x_Mo_peak_32 : decode b_Mo_peak 32 = .ok (.ifCond .eq 6, 3) := by decide +kernel
theorem f_x_Mo_peak_38_2 : mblkB b_Mo_peak [(38, .iload_n 2, vi 0), (39, .iconst (-1), vi (-1))] = true := by decide +kernel
theorem e_x_Mo_peak_40 : decode b_Mo_peak 40 = .ok (.if_icmp .eq 10, 3) := by decide +kernel
theorem f_x_Mo_peak_50_1 : mblkB b_Mo_peak [(50, .aload_n 0, vi 0)] = true := by decide +kernel
theorem e_x_Mo_peak_51 : decode b_Mo_peak 51 = .ok (.getfield 314, 3) := by decide +kernel
theorem e_x_Mo_peak_54 : decode b_Mo_peak 54 = .ok (.ireturn, 1) := by decide +kernel
theorem f_x_Mo_peak_43_3 : mblkB b_Mo_peak [(43, .aload_n 0, vi 0), (44, .iload_n 1, vi 0), (45, .iload_n 2, vi 0)] = true := by decide +kernel
theorem e_x_Mo_peak_46 : decode b_Mo_peak 46 = .ok (.invokevirtual 367, 3) := by decide +kernel
theorem f_x_Mo_peak_49_2 : mblkB b_Mo_peak [(49, .astore_n 3, vi 0), (50, .aload_n 0, vi 0)] = true := by decide +kernel
theorem f_x_Mo_peak_35_1 : mblkB b_Mo_peak [(35, .bipush (-6), vi (-6))] = true := by decide +kernel
theorem e_x_Mo_peak_37 : decode b_Mo_peak 37 = .ok (.ireturn, 1) := by decide +kernel
set_option maxHeartbeats 4000000 in
set_option maxRecDepth 20000 in
theorem x_Mo_peak  : ∀ (l : Launch) (D : va_G) (B : Nat) (H0 : Heap) (ad : mAd) (A : mA) (a0 : Int) (a1 : Int) (hS : mStr D ad) (r9 : Int) (A9 : mA), f_Mo_peak  A a0 a1 = some (r9, A9) → mMet l D B H0 ad y_Mo_peak b_Mo_peak 4 (some .int) 1083 35675 [vr 0 0, vi a0, vi a1] A (fun v A' => v = some (vi r9) ∧ A' = A9) := by
  intro l D B H0 ad A a0 a1  hS r9 A9 h
  refine m_met (by decide) rfl (fun g w0 C Rm Y E => ?_)
  show JM g D ad w0 A 0 [(0, vr 0 0), (1, vi a0), (2, vi a1)] []
  unfold f_Mo_peak at h
  refine m_blk 2 [(0, vr 0 0), (1, vi a0), (2, vi a1)] [vi a0, vr 0 0] C f_x_Mo_peak_0_2 rfl ?_
  obtain ⟨q1, e2, h⟩ := obd h
  refine m_callV C Rm Y [vi a0] [] (x_Mo_isProgram l D B H0 ad _ a0 hS _ _ e2) cl_Mo_364 rfl (by decide) rfl rfl e_x_Mo_peak_2 rfl rfl rfl ⟨by decide, by decide⟩ ?_
  rintro _ _ ⟨rfl, rfl⟩
  show JM g D ad w0 q1.2 5 [(0, vr 0 0), (1, vi a0), (2, vi a1)] [vi q1.1]
  obtain ⟨c3, h⟩ := igd h
  refine m_if_eq (tgt := 18) C e_x_Mo_peak_5 (by decide) c3 (fun c4 => ?_) (fun c4 => ?_)
  · have h := ifp c4 h
    refine m_blk 20 [(0, vr 0 0), (1, vi a0), (2, vi a1)] [vi (-2)] C f_x_Mo_peak_18_1 rfl ?_
    exact m_iret C Rm E e_x_Mo_peak_20 (fin1 h)
  · have h := ifn c4 h
    refine m_blk 12 [(0, vr 0 0), (1, vi a0), (2, vi a1)] [vi 63, vi (-1), vi a1] C f_x_Mo_peak_8_3 rfl ?_
    obtain ⟨q5, e6, h⟩ := obd h
    refine m_callS C Rm Y [vi a1, vi (-1), vi 63] [] (x_Mo_in l D B H0 ad _ a1 (-1) 63 hS _ _ e6) cl_Mo_108 e_x_Mo_peak_12 rfl rfl rfl ⟨by decide, by decide⟩ ?_
    rintro _ _ ⟨rfl, rfl⟩
    show JM g D ad w0 q5.2 15 [(0, vr 0 0), (1, vi a0), (2, vi a1)] [vi q5.1]
    obtain ⟨c7, h⟩ := igd h
    refine m_if_ne (tgt := 21) C e_x_Mo_peak_15 (by decide) c7 (fun c8 => ?_) (fun c8 => ?_)
    · have h := ifn c8 h
      refine m_blk 24 [(0, vr 0 0), (1, vi a0), (2, vi a1)] [vi (-1), vi a0, vr 0 0] C f_x_Mo_peak_21_3 rfl ?_
      obtain ⟨q9, e10, h⟩ := obd h
      refine m_callV C Rm Y [vi a0, vi (-1)] [] (x_Mo_oddsO l D B H0 ad _ a0 (-1) hS _ _ e10) cl_Mo_367 rfl (by decide) rfl rfl e_x_Mo_peak_24 rfl rfl rfl ⟨by decide, by decide⟩ ?_
      rintro _ _ ⟨rfl, rfl, g11⟩
      show JM g D ad w0 q9.2 27 [(0, vr 0 0), (1, vi a0), (2, vi a1)] [vr 1 q9.1.toNat]
      refine m_blk 29 [(3, vr 1 q9.1.toNat), (0, vr 0 0), (1, vi a0), (2, vi a1)] [vr 0 0] C f_x_Mo_peak_27_2 rfl ?_
      refine m_geti C e_x_Mo_peak_29 fg_Mo_297 rfl (by decide) rfl (q9.2 0 0 34) rfl ?_
      obtain ⟨c12, h⟩ := igd h
      refine m_if_eq (tgt := 38) C e_x_Mo_peak_32 (by decide) c12 (fun c13 => ?_) (fun c13 => ?_)
      · have h := ifp c13 h
        refine m_blk 40 [(3, vr 1 q9.1.toNat), (0, vr 0 0), (1, vi a0), (2, vi a1)] [vi (-1), vi a1] C f_x_Mo_peak_38_2 rfl ?_
        obtain ⟨c14, h⟩ := igd h
        refine m_icmp_eq (tgt := 50) C e_x_Mo_peak_40 (by decide) c14 (by decide) (fun c15 => ?_) (fun c15 => ?_)
        · have h := ifp c15 h
          refine m_blk 51 [(3, vr 1 q9.1.toNat), (0, vr 0 0), (1, vi a0), (2, vi a1)] [vr 0 0] C f_x_Mo_peak_50_1 rfl ?_
          refine m_geti C e_x_Mo_peak_51 fg_Mo_314 rfl (by decide) rfl (q9.2 0 0 35) rfl ?_
          exact m_iret C Rm E e_x_Mo_peak_54 (fin1 h)
        · have h := ifn c15 h
          refine m_blk 46 [(3, vr 1 q9.1.toNat), (0, vr 0 0), (1, vi a0), (2, vi a1)] [vi a1, vi a0, vr 0 0] C f_x_Mo_peak_43_3 rfl ?_
          obtain ⟨q16, e17, h⟩ := obd h
          refine m_callV C Rm Y [vi a0, vi a1] [] (x_Mo_oddsO l D B H0 ad _ a0 a1 hS _ _ e17) cl_Mo_367 rfl (by decide) rfl rfl e_x_Mo_peak_46 rfl rfl rfl ⟨by decide, by decide⟩ ?_
          rintro _ _ ⟨rfl, rfl, g18⟩
          show JM g D ad w0 q16.2 49 [(3, vr 1 q9.1.toNat), (0, vr 0 0), (1, vi a0), (2, vi a1)] [vr 1 q16.1.toNat]
          refine m_blk 51 [(3, vr 1 q16.1.toNat), (0, vr 0 0), (1, vi a0), (2, vi a1)] [vr 0 0] C f_x_Mo_peak_49_2 rfl ?_
          refine m_geti C e_x_Mo_peak_51 fg_Mo_314 rfl (by decide) rfl (q16.2 0 0 35) rfl ?_
          exact m_iret C Rm E e_x_Mo_peak_54 (fin1 h)
      · have h := ifn c13 h
        refine m_blk 37 [(3, vr 1 q9.1.toNat), (0, vr 0 0), (1, vi a0), (2, vi a1)] [vi (-6)] C f_x_Mo_peak_35_1 rfl ?_
        exact m_iret C Rm E e_x_Mo_peak_37 (fin1 h)
    · have h := ifp c8 h
      refine m_blk 20 [(0, vr 0 0), (1, vi a0), (2, vi a1)] [vi (-2)] C f_x_Mo_peak_18_1 rfl ?_
      exact m_iret C Rm E e_x_Mo_peak_20 (fin1 h)

def f_Mo_alike_86 (c_76 : mA → Nat → Nat → Int → Option (Int × mA)) : Nat → mA → Nat → Nat → Int → Int → Option (Int × mA)
  | 0, _, _, _, _, _ => none
  | n + 1, A, b3, b5, b6, b7 => (if g32 b7 then (if 10 ≤ b7 then (c_76 A b3 b5 (b6 + 1)) else (Option.bind (f_Mo_weightOf A b3 b6 b7) (fun q3 => (Option.bind (f_Odds_all q3.2 b3) (fun q5 => (Option.bind (f_Mo_weightOf q5.2 b5 b6 b7) (fun q7 => (Option.bind (f_Odds_all q7.2 b5) (fun q9 => (Option.bind (f_Mo_areSame q9.2 q3.1 q5.1 q7.1 q9.1) (fun q11 => (if g32 q11.1 then (if q11.1 = 0 then (some (0, q11.2)) else (f_Mo_alike_86  c_76 n q11.2 b3 b5 b6 (b7 + 1))) else none)))))))))))) else none)
def f_Mo_alike_76 : Nat → mA → Nat → Nat → Int → Option (Int × mA)
  | 0, _, _, _, _ => none
  | n + 1, A, b3, b5, b6 => (if g32 b6 then (if 6 ≤ b6 then (some (1, A)) else (f_Mo_alike_86  (f_Mo_alike_76   n) 20 A b3 b5 b6 0)) else none)
def f_Mo_alike (A : mA) (a0 : Int) (a1 : Int) : Option (Int × mA) := (Option.bind (f_Mo_isProgram A a0) (fun q17 => (if g32 q17.1 then (if q17.1 = 0 then (some ((-2), q17.2)) else (Option.bind (f_Mo_isProgram q17.2 a1) (fun q21 => (if g32 q21.1 then (if q21.1 = 0 then (some ((-2), q21.2)) else (Option.bind (f_Mo_oddsO q21.2 a0 (-1)) (fun q25 => (Option.bind (f_Mo_oddsBeside q25.2 a1 (-1)) (fun q28 => (if g32 (q25.2 0 0 34) then (if (q25.2 0 0 34) = 0 then (if g32 (q28.2 0 0 34) then (if (q28.2 0 0 34) = 0 then (if g32 (q28.2 1 q25.1.toNat 2) then (if (q28.2 1 q25.1.toNat 2) = 0 then (some ((-7), q28.2)) else (if g32 (q28.2 1 q28.1.toNat 2) then (if (q28.2 1 q28.1.toNat 2) = 0 then (some ((-7), q28.2)) else (f_Mo_alike_76  20 q28.2 q25.1.toNat q28.1.toNat 0)) else none)) else none) else (some ((-6), q28.2))) else none) else (some ((-6), q28.2))) else none)))))) else none)))) else none)))
theorem f_x_Mo_alike_0_2 : mblkB b_Mo_alike [(0, .aload_n 0, vi 0), (1, .iload_n 1, vi 0)] = true := by decide +kernel
theorem e_x_Mo_alike_2 : decode b_Mo_alike 2 = .ok (.invokevirtual 364, 3) := by decide +kernel
theorem e_x_Mo_alike_5 : decode b_Mo_alike 5 = .ok (.ifCond .eq 11, 3) := by decide +kernel
theorem f_x_Mo_alike_16_1 : mblkB b_Mo_alike [(16, .bipush (-2), vi (-2))] = true := by decide +kernel
theorem e_x_Mo_alike_18 : decode b_Mo_alike 18 = .ok (.ireturn, 1) := by decide +kernel
theorem f_x_Mo_alike_8_2 : mblkB b_Mo_alike [(8, .aload_n 0, vi 0), (9, .iload_n 2, vi 0)] = true := by decide +kernel
theorem e_x_Mo_alike_10 : decode b_Mo_alike 10 = .ok (.invokevirtual 364, 3) := by decide +kernel
theorem e_x_Mo_alike_13 : decode b_Mo_alike 13 = .ok (.ifCond .ne 6, 3) := by decide +kernel
theorem f_x_Mo_alike_19_3 : mblkB b_Mo_alike [(19, .aload_n 0, vi 0), (20, .iload_n 1, vi 0), (21, .iconst (-1), vi (-1))] = true := by decide +kernel
theorem e_x_Mo_alike_22 : decode b_Mo_alike 22 = .ok (.invokevirtual 367, 3) := by decide +kernel
theorem f_x_Mo_alike_25_2 : mblkB b_Mo_alike [(25, .astore_n 3, vi 0), (26, .aload_n 0, vi 0)] = true := by decide +kernel
theorem e_x_Mo_alike_27 : decode b_Mo_alike 27 = .ok (.getfield 297, 3) := by decide +kernel
theorem f_x_Mo_alike_30_4 : mblkB b_Mo_alike [(30, .istore 4, vi 0), (32, .aload_n 0, vi 0), (33, .iload_n 2, vi 0), (34, .iconst (-1), vi (-1))] = true := by decide +kernel
theorem e_x_Mo_alike_35 : decode b_Mo_alike 35 = .ok (.invokevirtual 354, 3) := by decide +kernel
theorem f_x_Mo_alike_38_2 : mblkB b_Mo_alike [(38, .astore 5, vi 0), (40, .iload 4, vi 0)] = true := by decide +kernel
theorem e_x_Mo_alike_42 : decode b_Mo_alike 42 = .ok (.ifCond .ne 10, 3) := by decide +kernel
theorem f_x_Mo_alike_52_1 : mblkB b_Mo_alike [(52, .bipush (-6), vi (-6))] = true := by decide +kernel
theorem e_x_Mo_alike_54 : decode b_Mo_alike 54 = .ok (.ireturn, 1) := by decide +kernel
theorem f_x_Mo_alike_45_1 : mblkB b_Mo_alike [(45, .aload_n 0, vi 0)] = true := by decide +kernel
theorem e_x_Mo_alike_46 : decode b_Mo_alike 46 = .ok (.getfield 297, 3) := by decide +kernel
theorem e_x_Mo_alike_49 : decode b_Mo_alike 49 = .ok (.ifCond .eq 6, 3) := by decide +kernel
theorem f_x_Mo_alike_55_1 : mblkB b_Mo_alike [(55, .aload_n 3, vi 0)] = true := by decide +kernel
theorem e_x_Mo_alike_56 : decode b_Mo_alike 56 = .ok (.getfield 272, 3) := by decide +kernel
theorem e_x_Mo_alike_59 : decode b_Mo_alike 59 = .ok (.ifCond .eq 11, 3) := by decide +kernel
theorem f_x_Mo_alike_70_1 : mblkB b_Mo_alike [(70, .bipush (-7), vi (-7))] = true := by decide +kernel
theorem e_x_Mo_alike_72 : decode b_Mo_alike 72 = .ok (.ireturn, 1) := by decide +kernel
theorem f_x_Mo_alike_62_1 : mblkB b_Mo_alike [(62, .aload 5, vi 0)] = true := by decide +kernel
theorem e_x_Mo_alike_64 : decode b_Mo_alike 64 = .ok (.getfield 272, 3) := by decide +kernel
theorem e_x_Mo_alike_67 : decode b_Mo_alike 67 = .ok (.ifCond .ne 6, 3) := by decide +kernel
theorem f_x_Mo_alike_73_2 : mblkB b_Mo_alike [(73, .iconst 0, vi 0), (74, .istore 6, vi 0)] = true := by decide +kernel
theorem f_x_Mo_alike_76_2 : mblkB b_Mo_alike [(76, .iload 6, vi 0), (78, .bipush 6, vi 6)] = true := by decide +kernel
theorem e_x_Mo_alike_80 : decode b_Mo_alike 80 = .ok (.if_icmp .ge 59, 3) := by decide +kernel
theorem f_x_Mo_alike_139_1 : mblkB b_Mo_alike [(139, .iconst 1, vi 1)] = true := by decide +kernel
theorem e_x_Mo_alike_140 : decode b_Mo_alike 140 = .ok (.ireturn, 1) := by decide +kernel
theorem f_x_Mo_alike_83_2 : mblkB b_Mo_alike [(83, .iconst 0, vi 0), (84, .istore 7, vi 0)] = true := by decide +kernel
theorem f_x_Mo_alike_86_2 : mblkB b_Mo_alike [(86, .iload 7, vi 0), (88, .bipush 10, vi 10)] = true := by decide +kernel
theorem e_x_Mo_alike_90 : decode b_Mo_alike 90 = .ok (.if_icmp .ge 43, 3) := by decide +kernel
theorem f_x_Mo_alike_133_2 : mblkB b_Mo_alike [(133, .iinc 6 1, vi 1), (136, .goto (-60), vi 76)] = true := by decide +kernel
theorem f_x_Mo_alike_93_3 : mblkB b_Mo_alike [(93, .aload_n 3, vi 0), (94, .iload 6, vi 0), (96, .iload 7, vi 0)] = true := by decide +kernel
theorem e_x_Mo_alike_98 : decode b_Mo_alike 98 = .ok (.invokestatic 384, 3) := by decide +kernel
theorem f_x_Mo_alike_101_1 : mblkB b_Mo_alike [(101, .aload_n 3, vi 0)] = true := by decide +kernel
theorem e_x_Mo_alike_102 : decode b_Mo_alike 102 = .ok (.invokevirtual 372, 3) := by decide +kernel
theorem f_x_Mo_alike_105_3 : mblkB b_Mo_alike [(105, .aload 5, vi 0), (107, .iload 6, vi 0), (109, .iload 7, vi 0)] = true := by decide +kernel
theorem e_x_Mo_alike_111 : decode b_Mo_alike 111 = .ok (.invokestatic 384, 3) := by decide +kernel
theorem f_x_Mo_alike_114_1 : mblkB b_Mo_alike [(114, .aload 5, vi 0)] = true := by decide +kernel
theorem e_x_Mo_alike_116 : decode b_Mo_alike 116 = .ok (.invokevirtual 372, 3) := by decide +kernel
theorem e_x_Mo_alike_119 : decode b_Mo_alike 119 = .ok (.invokestatic 396, 3) := by decide +kernel
theorem e_x_Mo_alike_122 : decode b_Mo_alike 122 = .ok (.ifCond .ne 5, 3) := by decide +kernel
theorem f_x_Mo_alike_127_2 : mblkB b_Mo_alike [(127, .iinc 7 1, vi 1), (130, .goto (-44), vi 86)] = true := by decide +kernel
theorem f_x_Mo_alike_125_1 : mblkB b_Mo_alike [(125, .iconst 0, vi 0)] = true := by decide +kernel
theorem e_x_Mo_alike_126 : decode b_Mo_alike 126 = .ok (.ireturn, 1) := by decide +kernel
set_option maxHeartbeats 4000000 in
set_option maxRecDepth 20000 in
theorem x_Mo_alike  : ∀ (l : Launch) (D : va_G) (B : Nat) (H0 : Heap) (ad : mAd) (A : mA) (a0 : Int) (a1 : Int) (hS : mStr D ad) (r9 : Int) (A9 : mA), f_Mo_alike  A a0 a1 = some (r9, A9) → mMet l D B H0 ad y_Mo_alike b_Mo_alike 8 (some .int) 1083 35675 [vr 0 0, vi a0, vi a1] A (fun v A' => v = some (vi r9) ∧ A' = A9) := by
  intro l D B H0 ad A a0 a1  hS r9 A9 h
  refine m_met (by decide) rfl (fun g w0 C Rm Y E => ?_)
  have hd_86 : ∀ (c_76 : mA → Nat → Nat → Int → Option (Int × mA)) (hc_76 : ∀ (A : mA) (b3 : Nat) (b5 : Nat) (b6 : Int) , b3 < 200 → b5 < 200 → c_76 A b3 b5 b6 = some (r9, A9) → JM g D ad w0 A 76 [(3, vr 1 b3), (5, vr 1 b5), (6, vi b6)] []) (n : Nat) (A : mA) (b3 : Nat) (b5 : Nat) (b6 : Int) (b7 : Int) , b3 < 200 → b5 < 200 → f_Mo_alike_86  c_76 n A b3 b5 b6 b7 = some (r9, A9) → JM g D ad w0 A 86 [(3, vr 1 b3), (5, vr 1 b5), (6, vi b6), (7, vi b7)] [] := by
    intro c_76 hc_76 n
    induction n with
    | zero => intro A b3 b5 b6 b7 h_b3 h_b5 h; cases h
    | succ n ih =>
      intro A b3 b5 b6 b7 h_b3 h_b5 h
      unfold f_Mo_alike_86 at h
      refine m_blk 90 [(3, vr 1 b3), (5, vr 1 b5), (6, vi b6), (7, vi b7)] [vi 10, vi b7] C f_x_Mo_alike_86_2 rfl ?_
      obtain ⟨c1, h⟩ := igd h
      refine m_icmp_ge (tgt := 133) C e_x_Mo_alike_90 (by decide) c1 (by decide) (fun c2 => ?_) (fun c2 => ?_)
      · have h := ifp c2 h
        refine m_blk 76 [(6, vi (b6 + 1)), (3, vr 1 b3), (5, vr 1 b5), (7, vi b7)] [] C f_x_Mo_alike_133_2 rfl ?_
        refine m_loc [(3, vr 1 b3), (5, vr 1 b5), (6, vi (b6 + 1))] ⟨rfl, rfl, rfl, trivial⟩ ?_
        exact hc_76 A b3 b5 (b6 + 1) (h_b3) (h_b5) h
      · have h := ifn c2 h
        refine m_blk 98 [(3, vr 1 b3), (5, vr 1 b5), (6, vi b6), (7, vi b7)] [vi b7, vi b6, vr 1 b3] C f_x_Mo_alike_93_3 rfl ?_
        obtain ⟨q3, e4, h⟩ := obd h
        refine m_callS C Rm Y [vr 1 b3, vi b6, vi b7] [] (x_Mo_weightOf l D B H0 ad _ b3 b6 b7 (h_b3) hS _ _ e4) cl_Mo_384 e_x_Mo_alike_98 rfl rfl rfl ⟨by decide, by decide⟩ ?_
        rintro _ _ ⟨rfl, rfl⟩
        show JM g D ad w0 q3.2 101 [(3, vr 1 b3), (5, vr 1 b5), (6, vi b6), (7, vi b7)] [vl q3.1]
        refine m_blk 102 [(3, vr 1 b3), (5, vr 1 b5), (6, vi b6), (7, vi b7)] [vr 1 b3, vl q3.1] C f_x_Mo_alike_101_1 rfl ?_
        obtain ⟨q5, e6, h⟩ := obd h
        refine m_callV C Rm Y [] [vl q3.1] (x_Odds_all l D B H0 ad _ b3 (h_b3) hS _ _ e6) cl_Mo_372 rfl (h_b3) rfl rfl e_x_Mo_alike_102 rfl rfl rfl ⟨by decide, by decide⟩ ?_
        rintro _ _ ⟨rfl, rfl⟩
        show JM g D ad w0 q5.2 105 [(3, vr 1 b3), (5, vr 1 b5), (6, vi b6), (7, vi b7)] [vl q5.1, vl q3.1]
        refine m_blk 111 [(3, vr 1 b3), (5, vr 1 b5), (6, vi b6), (7, vi b7)] [vi b7, vi b6, vr 1 b5, vl q5.1, vl q3.1] C f_x_Mo_alike_105_3 rfl ?_
        obtain ⟨q7, e8, h⟩ := obd h
        refine m_callS C Rm Y [vr 1 b5, vi b6, vi b7] [vl q5.1, vl q3.1] (x_Mo_weightOf l D B H0 ad _ b5 b6 b7 (h_b5) hS _ _ e8) cl_Mo_384 e_x_Mo_alike_111 rfl rfl rfl ⟨by decide, by decide⟩ ?_
        rintro _ _ ⟨rfl, rfl⟩
        show JM g D ad w0 q7.2 114 [(3, vr 1 b3), (5, vr 1 b5), (6, vi b6), (7, vi b7)] [vl q7.1, vl q5.1, vl q3.1]
        refine m_blk 116 [(3, vr 1 b3), (5, vr 1 b5), (6, vi b6), (7, vi b7)] [vr 1 b5, vl q7.1, vl q5.1, vl q3.1] C f_x_Mo_alike_114_1 rfl ?_
        obtain ⟨q9, e10, h⟩ := obd h
        refine m_callV C Rm Y [] [vl q7.1, vl q5.1, vl q3.1] (x_Odds_all l D B H0 ad _ b5 (h_b5) hS _ _ e10) cl_Mo_372 rfl (h_b5) rfl rfl e_x_Mo_alike_116 rfl rfl rfl ⟨by decide, by decide⟩ ?_
        rintro _ _ ⟨rfl, rfl⟩
        show JM g D ad w0 q9.2 119 [(3, vr 1 b3), (5, vr 1 b5), (6, vi b6), (7, vi b7)] [vl q9.1, vl q7.1, vl q5.1, vl q3.1]
        obtain ⟨q11, e12, h⟩ := obd h
        refine m_callS C Rm Y [vl q3.1, vl q5.1, vl q7.1, vl q9.1] [] (x_Mo_areSame l D B H0 ad _ q3.1 q5.1 q7.1 q9.1 hS _ _ e12) cl_Mo_396 e_x_Mo_alike_119 rfl rfl rfl ⟨by decide, by decide⟩ ?_
        rintro _ _ ⟨rfl, rfl⟩
        show JM g D ad w0 q11.2 122 [(3, vr 1 b3), (5, vr 1 b5), (6, vi b6), (7, vi b7)] [vi q11.1]
        obtain ⟨c13, h⟩ := igd h
        refine m_if_ne (tgt := 127) C e_x_Mo_alike_122 (by decide) c13 (fun c14 => ?_) (fun c14 => ?_)
        · have h := ifn c14 h
          refine m_blk 86 [(7, vi (b7 + 1)), (3, vr 1 b3), (5, vr 1 b5), (6, vi b6)] [] C f_x_Mo_alike_127_2 rfl ?_
          refine m_loc [(3, vr 1 b3), (5, vr 1 b5), (6, vi b6), (7, vi (b7 + 1))] ⟨rfl, rfl, rfl, rfl, trivial⟩ ?_
          exact ih q11.2 b3 b5 b6 (b7 + 1) (h_b3) (h_b5) h
        · have h := ifp c14 h
          refine m_blk 126 [(3, vr 1 b3), (5, vr 1 b5), (6, vi b6), (7, vi b7)] [vi 0] C f_x_Mo_alike_125_1 rfl ?_
          exact m_iret C Rm E e_x_Mo_alike_126 (fin1 h)
  have hd_76 : ∀ (n : Nat) (A : mA) (b3 : Nat) (b5 : Nat) (b6 : Int) , b3 < 200 → b5 < 200 → f_Mo_alike_76   n A b3 b5 b6 = some (r9, A9) → JM g D ad w0 A 76 [(3, vr 1 b3), (5, vr 1 b5), (6, vi b6)] [] := by
    intro  n
    induction n with
    | zero => intro A b3 b5 b6 h_b3 h_b5 h; cases h
    | succ n ih =>
      intro A b3 b5 b6 h_b3 h_b5 h
      unfold f_Mo_alike_76 at h
      refine m_blk 80 [(3, vr 1 b3), (5, vr 1 b5), (6, vi b6)] [vi 6, vi b6] C f_x_Mo_alike_76_2 rfl ?_
      obtain ⟨c15, h⟩ := igd h
      refine m_icmp_ge (tgt := 139) C e_x_Mo_alike_80 (by decide) c15 (by decide) (fun c16 => ?_) (fun c16 => ?_)
      · have h := ifp c16 h
        refine m_blk 140 [(3, vr 1 b3), (5, vr 1 b5), (6, vi b6)] [vi 1] C f_x_Mo_alike_139_1 rfl ?_
        exact m_iret C Rm E e_x_Mo_alike_140 (fin1 h)
      · have h := ifn c16 h
        refine m_blk 86 [(7, vi 0), (3, vr 1 b3), (5, vr 1 b5), (6, vi b6)] [] C f_x_Mo_alike_83_2 rfl ?_
        refine m_loc [(3, vr 1 b3), (5, vr 1 b5), (6, vi b6), (7, vi 0)] ⟨rfl, rfl, rfl, rfl, trivial⟩ ?_
        exact hd_86 (f_Mo_alike_76   n) ih _ A b3 b5 b6 0 (h_b3) (h_b5) h
  show JM g D ad w0 A 0 [(0, vr 0 0), (1, vi a0), (2, vi a1)] []
  unfold f_Mo_alike at h
  refine m_blk 2 [(0, vr 0 0), (1, vi a0), (2, vi a1)] [vi a0, vr 0 0] C f_x_Mo_alike_0_2 rfl ?_
  obtain ⟨q17, e18, h⟩ := obd h
  refine m_callV C Rm Y [vi a0] [] (x_Mo_isProgram l D B H0 ad _ a0 hS _ _ e18) cl_Mo_364 rfl (by decide) rfl rfl e_x_Mo_alike_2 rfl rfl rfl ⟨by decide, by decide⟩ ?_
  rintro _ _ ⟨rfl, rfl⟩
  show JM g D ad w0 q17.2 5 [(0, vr 0 0), (1, vi a0), (2, vi a1)] [vi q17.1]
  obtain ⟨c19, h⟩ := igd h
  refine m_if_eq (tgt := 16) C e_x_Mo_alike_5 (by decide) c19 (fun c20 => ?_) (fun c20 => ?_)
  · have h := ifp c20 h
    refine m_blk 18 [(0, vr 0 0), (1, vi a0), (2, vi a1)] [vi (-2)] C f_x_Mo_alike_16_1 rfl ?_
    exact m_iret C Rm E e_x_Mo_alike_18 (fin1 h)
  · have h := ifn c20 h
    refine m_blk 10 [(0, vr 0 0), (1, vi a0), (2, vi a1)] [vi a1, vr 0 0] C f_x_Mo_alike_8_2 rfl ?_
    obtain ⟨q21, e22, h⟩ := obd h
    refine m_callV C Rm Y [vi a1] [] (x_Mo_isProgram l D B H0 ad _ a1 hS _ _ e22) cl_Mo_364 rfl (by decide) rfl rfl e_x_Mo_alike_10 rfl rfl rfl ⟨by decide, by decide⟩ ?_
    rintro _ _ ⟨rfl, rfl⟩
    show JM g D ad w0 q21.2 13 [(0, vr 0 0), (1, vi a0), (2, vi a1)] [vi q21.1]
    obtain ⟨c23, h⟩ := igd h
    refine m_if_ne (tgt := 19) C e_x_Mo_alike_13 (by decide) c23 (fun c24 => ?_) (fun c24 => ?_)
    · have h := ifn c24 h
      refine m_blk 22 [(0, vr 0 0), (1, vi a0), (2, vi a1)] [vi (-1), vi a0, vr 0 0] C f_x_Mo_alike_19_3 rfl ?_
      obtain ⟨q25, e26, h⟩ := obd h
      refine m_callV C Rm Y [vi a0, vi (-1)] [] (x_Mo_oddsO l D B H0 ad _ a0 (-1) hS _ _ e26) cl_Mo_367 rfl (by decide) rfl rfl e_x_Mo_alike_22 rfl rfl rfl ⟨by decide, by decide⟩ ?_
      rintro _ _ ⟨rfl, rfl, g27⟩
      show JM g D ad w0 q25.2 25 [(0, vr 0 0), (1, vi a0), (2, vi a1)] [vr 1 q25.1.toNat]
      refine m_blk 27 [(3, vr 1 q25.1.toNat), (0, vr 0 0), (1, vi a0), (2, vi a1)] [vr 0 0] C f_x_Mo_alike_25_2 rfl ?_
      refine m_geti C e_x_Mo_alike_27 fg_Mo_297 rfl (by decide) rfl (q25.2 0 0 34) rfl ?_
      refine m_blk 35 [(4, vi (q25.2 0 0 34)), (3, vr 1 q25.1.toNat), (0, vr 0 0), (1, vi a0), (2, vi a1)] [vi (-1), vi a1, vr 0 0] C f_x_Mo_alike_30_4 rfl ?_
      obtain ⟨q28, e29, h⟩ := obd h
      refine m_callV C Rm Y [vi a1, vi (-1)] [] (x_Mo_oddsBeside l D B H0 ad _ a1 (-1) hS _ _ e29) cl_Mo_354 rfl (by decide) rfl rfl e_x_Mo_alike_35 rfl rfl rfl ⟨by decide, by decide⟩ ?_
      rintro _ _ ⟨rfl, rfl, g30⟩
      show JM g D ad w0 q28.2 38 [(4, vi (q25.2 0 0 34)), (3, vr 1 q25.1.toNat), (0, vr 0 0), (1, vi a0), (2, vi a1)] [vr 1 q28.1.toNat]
      refine m_blk 42 [(5, vr 1 q28.1.toNat), (4, vi (q25.2 0 0 34)), (3, vr 1 q25.1.toNat), (0, vr 0 0), (1, vi a0), (2, vi a1)] [vi (q25.2 0 0 34)] C f_x_Mo_alike_38_2 rfl ?_
      obtain ⟨c31, h⟩ := igd h
      refine m_if_ne (tgt := 52) C e_x_Mo_alike_42 (by decide) c31 (fun c32 => ?_) (fun c32 => ?_)
      · have h := ifn c32 h
        refine m_blk 54 [(5, vr 1 q28.1.toNat), (4, vi (q25.2 0 0 34)), (3, vr 1 q25.1.toNat), (0, vr 0 0), (1, vi a0), (2, vi a1)] [vi (-6)] C f_x_Mo_alike_52_1 rfl ?_
        exact m_iret C Rm E e_x_Mo_alike_54 (fin1 h)
      · have h := ifp c32 h
        refine m_blk 46 [(5, vr 1 q28.1.toNat), (4, vi (q25.2 0 0 34)), (3, vr 1 q25.1.toNat), (0, vr 0 0), (1, vi a0), (2, vi a1)] [vr 0 0] C f_x_Mo_alike_45_1 rfl ?_
        refine m_geti C e_x_Mo_alike_46 fg_Mo_297 rfl (by decide) rfl (q28.2 0 0 34) rfl ?_
        obtain ⟨c33, h⟩ := igd h
        refine m_if_eq (tgt := 55) C e_x_Mo_alike_49 (by decide) c33 (fun c34 => ?_) (fun c34 => ?_)
        · have h := ifp c34 h
          refine m_blk 56 [(5, vr 1 q28.1.toNat), (4, vi (q25.2 0 0 34)), (3, vr 1 q25.1.toNat), (0, vr 0 0), (1, vi a0), (2, vi a1)] [vr 1 q25.1.toNat] C f_x_Mo_alike_55_1 rfl ?_
          refine m_getiN C e_x_Mo_alike_56 fg_Mo_272 rfl (g27) rfl (q28.2 1 q25.1.toNat 2) rfl ?_
          obtain ⟨c35, h⟩ := igd h
          refine m_if_eq (tgt := 70) C e_x_Mo_alike_59 (by decide) c35 (fun c36 => ?_) (fun c36 => ?_)
          · have h := ifp c36 h
            refine m_blk 72 [(5, vr 1 q28.1.toNat), (4, vi (q25.2 0 0 34)), (3, vr 1 q25.1.toNat), (0, vr 0 0), (1, vi a0), (2, vi a1)] [vi (-7)] C f_x_Mo_alike_70_1 rfl ?_
            exact m_iret C Rm E e_x_Mo_alike_72 (fin1 h)
          · have h := ifn c36 h
            refine m_blk 64 [(5, vr 1 q28.1.toNat), (4, vi (q25.2 0 0 34)), (3, vr 1 q25.1.toNat), (0, vr 0 0), (1, vi a0), (2, vi a1)] [vr 1 q28.1.toNat] C f_x_Mo_alike_62_1 rfl ?_
            refine m_getiN C e_x_Mo_alike_64 fg_Mo_272 rfl (g30) rfl (q28.2 1 q28.1.toNat 2) rfl ?_
            obtain ⟨c37, h⟩ := igd h
            refine m_if_ne (tgt := 73) C e_x_Mo_alike_67 (by decide) c37 (fun c38 => ?_) (fun c38 => ?_)
            · have h := ifn c38 h
              refine m_blk 76 [(6, vi 0), (5, vr 1 q28.1.toNat), (4, vi (q25.2 0 0 34)), (3, vr 1 q25.1.toNat), (0, vr 0 0), (1, vi a0), (2, vi a1)] [] C f_x_Mo_alike_73_2 rfl ?_
              refine m_loc [(3, vr 1 q25.1.toNat), (5, vr 1 q28.1.toNat), (6, vi 0)] ⟨rfl, rfl, rfl, trivial⟩ ?_
              exact hd_76 _ q28.2 q25.1.toNat q28.1.toNat 0 (g27) (g30) h
            · have h := ifp c38 h
              refine m_blk 72 [(5, vr 1 q28.1.toNat), (4, vi (q25.2 0 0 34)), (3, vr 1 q25.1.toNat), (0, vr 0 0), (1, vi a0), (2, vi a1)] [vi (-7)] C f_x_Mo_alike_70_1 rfl ?_
              exact m_iret C Rm E e_x_Mo_alike_72 (fin1 h)
        · have h := ifn c34 h
          refine m_blk 54 [(5, vr 1 q28.1.toNat), (4, vi (q25.2 0 0 34)), (3, vr 1 q25.1.toNat), (0, vr 0 0), (1, vi a0), (2, vi a1)] [vi (-6)] C f_x_Mo_alike_52_1 rfl ?_
          exact m_iret C Rm E e_x_Mo_alike_54 (fin1 h)
    · have h := ifp c24 h
      refine m_blk 18 [(0, vr 0 0), (1, vi a0), (2, vi a1)] [vi (-2)] C f_x_Mo_alike_16_1 rfl ?_
      exact m_iret C Rm E e_x_Mo_alike_18 (fin1 h)

def f_Mo_tells_201 : Nat → mA → Int → Int → Int → Int → Int → Int → Int → Option (Int × mA)
  | 0, _, _, _, _, _, _, _, _ => none
  | n + 1, A, b1, b2, b3, b4, b7, b8, b9 => (if g32 b4 then (if b4 = 3 then (if g32 b9 then (if 10 ≤ b9 then (some (b7, (mu A 8 0 0 b8))) else (Option.bind (f_Mo_isSo (mu A 8 0 0 b9) b1 b2 b3) (fun q5 => (if g32 q5.1 then (if q5.1 = 0 then (f_Mo_tells_201  n q5.2 b1 b2 b3 b4 b7 b8 (b9 + 1)) else (f_Mo_tells_201  n q5.2 b1 b2 b3 b4 (iOr b7 (iShl 1 b9)) b8 (b9 + 1))) else none)))) else none) else (some (b7, (mu A 8 0 0 b8)))) else none)
def f_Mo_tells_149 : Nat → mA → Int → Int → Int → Int → Nat → Int → Int → Option (Int × mA)
  | 0, _, _, _, _, _, _, _, _ => none
  | n + 1, A, b1, b2, b3, b4, b5, b7, b8 => (if g32 b4 then (if b4 = 2 then (if g32 b8 then (if 6 ≤ b8 then (f_Mo_tells_201  20 A b1 b2 b3 b4 b7 (A 8 0 0) 0) else (Option.bind (f_Mo_otherwise A b1 b5 b8) (fun q13 => (if g32 q13.1 then (if q13.1 = (-1) then (f_Mo_tells_149  n q13.2 b1 b2 b3 b4 b5 (iOr b7 (iShl 1 b8)) (b8 + 1)) else (f_Mo_tells_149  n q13.2 b1 b2 b3 b4 b5 b7 (b8 + 1))) else none)))) else none) else (f_Mo_tells_201  20 A b1 b2 b3 b4 b7 (A 8 0 0) 0)) else none)
def f_Mo_tells_105 : Nat → mA → Int → Int → Int → Int → Nat → Int → Int → Option (Int × mA)
  | 0, _, _, _, _, _, _, _, _ => none
  | n + 1, A, b1, b2, b3, b4, b5, b7, b8 => (if g32 b4 then (if b4 = 1 then (if g32 b8 then if g32 (A 0 0 0) then (if (A 0 0 0) ≤ b8 then (f_Mo_tells_149  20 A b1 b2 b3 b4 b5 b7 0) else (Option.bind (f_Mo_isSo A b1 b8 b3) (fun q22 => (if g32 q22.1 then (if q22.1 = 0 then (f_Mo_tells_105  n q22.2 b1 b2 b3 b4 b5 b7 (b8 + 1)) else (f_Mo_tells_105  n q22.2 b1 b2 b3 b4 b5 (iOr b7 (iShl 1 b8)) (b8 + 1))) else none)))) else none else none) else (f_Mo_tells_149  20 A b1 b2 b3 b4 b5 b7 0)) else none)
def f_Mo_tells (A : mA) (a0 : Int) (a1 : Int) (a2 : Int) (a3 : Int) : Option (Int × mA) := (Option.bind (f_Mo_isSheet A a0) (fun q26 => (if g32 q26.1 then (if q26.1 = 0 then (some ((-2), q26.2)) else (Option.bind (f_Mo_isProgram q26.2 a1) (fun q30 => (if g32 q30.1 then (if q30.1 = 0 then (some ((-2), q30.2)) else (Option.bind (f_Mo_isName q30.2 a2) (fun q34 => (if g32 q34.1 then (if q34.1 = 0 then (some ((-2), q34.2)) else (Option.bind (f_Mo_in q34.2 a3 0 3) (fun q38 => (if g32 q38.1 then (if q38.1 = 0 then (some ((-2), q38.2)) else (Option.bind (f_Mo_oddsO q38.2 a1 (-1)) (fun q42 => (Option.bind (f_Mo_against q42.2 q42.1.toNat) (fun q45 => (if g32 q45.1 then (if q45.1 = 0 then (if (0 ≤ a0 ∧ a0 < ((4 : Nat) : Int)) then (if g32 (q45.2 11 0 a0.toNat) then (if 0 ≤ (q45.2 11 0 a0.toNat) then (if g32 (q45.2 12 0 a0.toNat) then (if (q45.2 12 0 a0.toNat) ≤ 10 then (if g32 a3 then (if a3 = 0 then (Option.bind (f_Mo_otherwise q45.2 a0 q42.1.toNat a2) (fun q56 => (some (q56.1, q56.2)))) else (f_Mo_tells_105  20 q45.2 a0 a1 a2 a3 q42.1.toNat 0 0)) else none) else (some ((-2), q45.2))) else none) else (some ((-11), q45.2))) else none) else none) else (some (q45.1, q45.2))) else none)))))) else none)))) else none)))) else none)))) else none)))
theorem f_x_Mo_tells_0_1 : mblkB b_Mo_tells [(0, .iload_n 1, vi 0)] = true := by decide +kernel
theorem e_x_Mo_tells_1 : decode b_Mo_tells 1 = .ok (.invokestatic 422, 3) := by decide +kernel
theorem e_x_Mo_tells_4 : decode b_Mo_tells 4 = .ok (.ifCond .eq 28, 3) := by decide +kernel
theorem f_x_Mo_tells_32_1 : mblkB b_Mo_tells [(32, .bipush (-2), vi (-2))] = true := by decide +kernel
theorem e_x_Mo_tells_34 : decode b_Mo_tells 34 = .ok (.ireturn, 1) := by decide +kernel
theorem f_x_Mo_tells_7_2 : mblkB b_Mo_tells [(7, .aload_n 0, vi 0), (8, .iload_n 2, vi 0)] = true := by decide +kernel
theorem e_x_Mo_tells_9 : decode b_Mo_tells 9 = .ok (.invokevirtual 364, 3) := by decide +kernel
theorem e_x_Mo_tells_12 : decode b_Mo_tells 12 = .ok (.ifCond .eq 20, 3) := by decide +kernel
theorem f_x_Mo_tells_15_1 : mblkB b_Mo_tells [(15, .iload_n 3, vi 0)] = true := by decide +kernel
theorem e_x_Mo_tells_16 : decode b_Mo_tells 16 = .ok (.invokestatic 254, 3) := by decide +kernel
theorem e_x_Mo_tells_19 : decode b_Mo_tells 19 = .ok (.ifCond .eq 13, 3) := by decide +kernel
theorem f_x_Mo_tells_22_3 : mblkB b_Mo_tells [(22, .iload 4, vi 0), (24, .iconst 0, vi 0), (25, .iconst 3, vi 3)] = true := by decide +kernel
theorem e_x_Mo_tells_26 : decode b_Mo_tells 26 = .ok (.invokestatic 108, 3) := by decide +kernel
theorem e_x_Mo_tells_29 : decode b_Mo_tells 29 = .ok (.ifCond .ne 6, 3) := by decide +kernel
theorem f_x_Mo_tells_35_3 : mblkB b_Mo_tells [(35, .aload_n 0, vi 0), (36, .iload_n 2, vi 0), (37, .iconst (-1), vi (-1))] = true := by decide +kernel
theorem e_x_Mo_tells_38 : decode b_Mo_tells 38 = .ok (.invokevirtual 367, 3) := by decide +kernel
theorem f_x_Mo_tells_41_3 : mblkB b_Mo_tells [(41, .astore 5, vi 0), (43, .aload_n 0, vi 0), (44, .aload 5, vi 0)] = true := by decide +kernel
theorem e_x_Mo_tells_46 : decode b_Mo_tells 46 = .ok (.invokevirtual 380, 3) := by decide +kernel
theorem f_x_Mo_tells_49_2 : mblkB b_Mo_tells [(49, .istore 6, vi 0), (51, .iload 6, vi 0)] = true := by decide +kernel
theorem e_x_Mo_tells_53 : decode b_Mo_tells 53 = .ok (.ifCond .eq 6, 3) := by decide +kernel
theorem f_x_Mo_tells_59_1 : mblkB b_Mo_tells [(59, .aload_n 0, vi 0)] = true := by decide +kernel
theorem e_x_Mo_tells_60 : decode b_Mo_tells 60 = .ok (.getfield 92, 3) := by decide +kernel
theorem f_x_Mo_tells_63_1 : mblkB b_Mo_tells [(63, .iload_n 1, vi 0)] = true := by decide +kernel
theorem e_x_Mo_tells_64 : decode b_Mo_tells 64 = .ok (.iaload, 1) := by decide +kernel
theorem e_x_Mo_tells_65 : decode b_Mo_tells 65 = .ok (.ifCond .ge 6, 3) := by decide +kernel
theorem f_x_Mo_tells_71_1 : mblkB b_Mo_tells [(71, .aload_n 0, vi 0)] = true := by decide +kernel
theorem e_x_Mo_tells_72 : decode b_Mo_tells 72 = .ok (.getfield 95, 3) := by decide +kernel
theorem f_x_Mo_tells_75_1 : mblkB b_Mo_tells [(75, .iload_n 1, vi 0)] = true := by decide +kernel
theorem e_x_Mo_tells_76 : decode b_Mo_tells 76 = .ok (.iaload, 1) := by decide +kernel
theorem f_x_Mo_tells_77_1 : mblkB b_Mo_tells [(77, .bipush 10, vi 10)] = true := by decide +kernel
theorem e_x_Mo_tells_79 : decode b_Mo_tells 79 = .ok (.if_icmp .le 6, 3) := by decide +kernel
theorem f_x_Mo_tells_85_1 : mblkB b_Mo_tells [(85, .iload 4, vi 0)] = true := by decide +kernel
theorem e_x_Mo_tells_87 : decode b_Mo_tells 87 = .ok (.ifCond .ne 12, 3) := by decide +kernel
theorem f_x_Mo_tells_99_4 : mblkB b_Mo_tells [(99, .iconst 0, vi 0), (100, .istore 7, vi 0), (102, .iconst 0, vi 0), (103, .istore 8, vi 0)] = true := by decide +kernel
theorem f_x_Mo_tells_90_4 : mblkB b_Mo_tells [(90, .aload_n 0, vi 0), (91, .iload_n 1, vi 0), (92, .aload 5, vi 0), (94, .iload_n 3, vi 0)] = true := by decide +kernel
theorem e_x_Mo_tells_95 : decode b_Mo_tells 95 = .ok (.invokevirtual 418, 3) := by decide +kernel
theorem e_x_Mo_tells_98 : decode b_Mo_tells 98 = .ok (.ireturn, 1) := by decide +kernel
theorem f_x_Mo_tells_82_1 : mblkB b_Mo_tells [(82, .bipush (-2), vi (-2))] = true := by decide +kernel
theorem e_x_Mo_tells_84 : decode b_Mo_tells 84 = .ok (.ireturn, 1) := by decide +kernel
theorem f_x_Mo_tells_68_1 : mblkB b_Mo_tells [(68, .bipush (-11), vi (-11))] = true := by decide +kernel
theorem e_x_Mo_tells_70 : decode b_Mo_tells 70 = .ok (.ireturn, 1) := by decide +kernel
theorem f_x_Mo_tells_56_1 : mblkB b_Mo_tells [(56, .iload 6, vi 0)] = true := by decide +kernel
theorem e_x_Mo_tells_58 : decode b_Mo_tells 58 = .ok (.ireturn, 1) := by decide +kernel
theorem f_x_Mo_tells_105_2 : mblkB b_Mo_tells [(105, .iload 4, vi 0), (107, .iconst 1, vi 1)] = true := by decide +kernel
theorem e_x_Mo_tells_108 : decode b_Mo_tells 108 = .ok (.if_icmp .ne 38, 3) := by decide +kernel
theorem f_x_Mo_tells_146_2 : mblkB b_Mo_tells [(146, .iconst 0, vi 0), (147, .istore 8, vi 0)] = true := by decide +kernel
theorem f_x_Mo_tells_111_2 : mblkB b_Mo_tells [(111, .iload 8, vi 0), (113, .aload_n 0, vi 0)] = true := by decide +kernel
theorem e_x_Mo_tells_114 : decode b_Mo_tells 114 = .ok (.getfield 105, 3) := by decide +kernel
theorem e_x_Mo_tells_117 : decode b_Mo_tells 117 = .ok (.if_icmp .ge 29, 3) := by decide +kernel
theorem f_x_Mo_tells_120_4 : mblkB b_Mo_tells [(120, .aload_n 0, vi 0), (121, .iload_n 1, vi 0), (122, .iload 8, vi 0), (124, .iload_n 3, vi 0)] = true := by decide +kernel
theorem e_x_Mo_tells_125 : decode b_Mo_tells 125 = .ok (.invokevirtual 425, 3) := by decide +kernel
theorem e_x_Mo_tells_128 : decode b_Mo_tells 128 = .ok (.ifCond .eq 12, 3) := by decide +kernel
theorem f_x_Mo_tells_140_2 : mblkB b_Mo_tells [(140, .iinc 8 1, vi 1), (143, .goto (-38), vi 105)] = true := by decide +kernel
theorem f_x_Mo_tells_131_8 : mblkB b_Mo_tells [(131, .iload 7, vi 0), (133, .iconst 1, vi 1), (134, .iload 8, vi 0), (136, .ishl, vi 0), (137, .ior, vi 0), (138, .istore 7, vi 0), (140, .iinc 8 1, vi 1), (143, .goto (-38), vi 105)] = true := by decide +kernel
theorem f_x_Mo_tells_149_2 : mblkB b_Mo_tells [(149, .iload 4, vi 0), (151, .iconst 2, vi 2)] = true := by decide +kernel
theorem e_x_Mo_tells_152 : decode b_Mo_tells 152 = .ok (.if_icmp .ne 38, 3) := by decide +kernel
theorem f_x_Mo_tells_190_1 : mblkB b_Mo_tells [(190, .aload_n 0, vi 0)] = true := by decide +kernel
theorem e_x_Mo_tells_191 : decode b_Mo_tells 191 = .ok (.getfield 60, 3) := by decide +kernel
theorem f_x_Mo_tells_194_1 : mblkB b_Mo_tells [(194, .iconst 0, vi 0)] = true := by decide +kernel
theorem e_x_Mo_tells_195 : decode b_Mo_tells 195 = .ok (.iaload, 1) := by decide +kernel
theorem f_x_Mo_tells_196_3 : mblkB b_Mo_tells [(196, .istore 8, vi 0), (198, .iconst 0, vi 0), (199, .istore 9, vi 0)] = true := by decide +kernel
theorem f_x_Mo_tells_155_2 : mblkB b_Mo_tells [(155, .iload 8, vi 0), (157, .bipush 6, vi 6)] = true := by decide +kernel
theorem e_x_Mo_tells_159 : decode b_Mo_tells 159 = .ok (.if_icmp .ge 31, 3) := by decide +kernel
theorem f_x_Mo_tells_162_4 : mblkB b_Mo_tells [(162, .aload_n 0, vi 0), (163, .iload_n 1, vi 0), (164, .aload 5, vi 0), (166, .iload 8, vi 0)] = true := by decide +kernel
theorem e_x_Mo_tells_168 : decode b_Mo_tells 168 = .ok (.invokevirtual 418, 3) := by decide +kernel
theorem f_x_Mo_tells_171_1 : mblkB b_Mo_tells [(171, .iconst (-1), vi (-1))] = true := by decide +kernel
theorem e_x_Mo_tells_172 : decode b_Mo_tells 172 = .ok (.if_icmp .ne 12, 3) := by decide +kernel
theorem f_x_Mo_tells_184_2 : mblkB b_Mo_tells [(184, .iinc 8 1, vi 1), (187, .goto (-38), vi 149)] = true := by decide +kernel
theorem f_x_Mo_tells_175_8 : mblkB b_Mo_tells [(175, .iload 7, vi 0), (177, .iconst 1, vi 1), (178, .iload 8, vi 0), (180, .ishl, vi 0), (181, .ior, vi 0), (182, .istore 7, vi 0), (184, .iinc 8 1, vi 1), (187, .goto (-38), vi 149)] = true := by decide +kernel
theorem f_x_Mo_tells_201_2 : mblkB b_Mo_tells [(201, .iload 4, vi 0), (203, .iconst 3, vi 3)] = true := by decide +kernel
theorem e_x_Mo_tells_204 : decode b_Mo_tells 204 = .ok (.if_icmp .ne 43, 3) := by decide +kernel
theorem f_x_Mo_tells_247_1 : mblkB b_Mo_tells [(247, .aload_n 0, vi 0)] = true := by decide +kernel
theorem e_x_Mo_tells_248 : decode b_Mo_tells 248 = .ok (.getfield 60, 3) := by decide +kernel
theorem f_x_Mo_tells_251_2 : mblkB b_Mo_tells [(251, .iconst 0, vi 0), (252, .iload 8, vi 0)] = true := by decide +kernel
theorem e_x_Mo_tells_254 : decode b_Mo_tells 254 = .ok (.iastore, 1) := by decide +kernel
theorem f_x_Mo_tells_255_1 : mblkB b_Mo_tells [(255, .iload 7, vi 0)] = true := by decide +kernel
theorem e_x_Mo_tells_257 : decode b_Mo_tells 257 = .ok (.ireturn, 1) := by decide +kernel
theorem f_x_Mo_tells_207_2 : mblkB b_Mo_tells [(207, .iload 9, vi 0), (209, .bipush 10, vi 10)] = true := by decide +kernel
theorem e_x_Mo_tells_211 : decode b_Mo_tells 211 = .ok (.if_icmp .ge 36, 3) := by decide +kernel
theorem f_x_Mo_tells_214_1 : mblkB b_Mo_tells [(214, .aload_n 0, vi 0)] = true := by decide +kernel
theorem e_x_Mo_tells_215 : decode b_Mo_tells 215 = .ok (.getfield 60, 3) := by decide +kernel
theorem f_x_Mo_tells_218_2 : mblkB b_Mo_tells [(218, .iconst 0, vi 0), (219, .iload 9, vi 0)] = true := by decide +kernel
theorem e_x_Mo_tells_221 : decode b_Mo_tells 221 = .ok (.iastore, 1) := by decide +kernel
theorem f_x_Mo_tells_222_4 : mblkB b_Mo_tells [(222, .aload_n 0, vi 0), (223, .iload_n 1, vi 0), (224, .iload_n 2, vi 0), (225, .iload_n 3, vi 0)] = true := by decide +kernel
theorem e_x_Mo_tells_226 : decode b_Mo_tells 226 = .ok (.invokevirtual 425, 3) := by decide +kernel
theorem e_x_Mo_tells_229 : decode b_Mo_tells 229 = .ok (.ifCond .eq 12, 3) := by decide +kernel
theorem f_x_Mo_tells_241_2 : mblkB b_Mo_tells [(241, .iinc 9 1, vi 1), (244, .goto (-43), vi 201)] = true := by decide +kernel
theorem f_x_Mo_tells_232_8 : mblkB b_Mo_tells [(232, .iload 7, vi 0), (234, .iconst 1, vi 1), (235, .iload 9, vi 0), (237, .ishl, vi 0), (238, .ior, vi 0), (239, .istore 7, vi 0), (241, .iinc 9 1, vi 1), (244, .goto (-43), vi 201)] = true := by decide +kernel
set_option maxHeartbeats 4000000 in
set_option maxRecDepth 20000 in
theorem x_Mo_tells  : ∀ (l : Launch) (D : va_G) (B : Nat) (H0 : Heap) (ad : mAd) (A : mA) (a0 : Int) (a1 : Int) (a2 : Int) (a3 : Int) (hS : mStr D ad) (r9 : Int) (A9 : mA), f_Mo_tells  A a0 a1 a2 a3 = some (r9, A9) → mMet l D B H0 ad y_Mo_tells b_Mo_tells 10 (some .int) 1084 35699 [vr 0 0, vi a0, vi a1, vi a2, vi a3] A (fun v A' => v = some (vi r9) ∧ A' = A9) := by
  intro l D B H0 ad A a0 a1 a2 a3  hS r9 A9 h
  refine m_met (by decide) rfl (fun g w0 C Rm Y E => ?_)
  have hd_201 : ∀ (n : Nat) (A : mA) (b1 : Int) (b2 : Int) (b3 : Int) (b4 : Int) (b7 : Int) (b8 : Int) (b9 : Int) , f_Mo_tells_201  n A b1 b2 b3 b4 b7 b8 b9 = some (r9, A9) → JM g D ad w0 A 201 [(0, vr 0 0), (1, vi b1), (2, vi b2), (3, vi b3), (4, vi b4), (7, vi b7), (8, vi b8), (9, vi b9)] [] := by
    intro n
    induction n with
    | zero => intro A b1 b2 b3 b4 b7 b8 b9  h; cases h
    | succ n ih =>
      intro A b1 b2 b3 b4 b7 b8 b9  h
      unfold f_Mo_tells_201 at h
      refine m_blk 204 [(0, vr 0 0), (1, vi b1), (2, vi b2), (3, vi b3), (4, vi b4), (7, vi b7), (8, vi b8), (9, vi b9)] [vi 3, vi b4] C f_x_Mo_tells_201_2 rfl ?_
      obtain ⟨c1, h⟩ := igd h
      refine m_icmp_ne (tgt := 247) C e_x_Mo_tells_204 (by decide) c1 (by decide) (fun c2 => ?_) (fun c2 => ?_)
      · have h := ifn c2 h
        refine m_blk 248 [(0, vr 0 0), (1, vi b1), (2, vi b2), (3, vi b3), (4, vi b4), (7, vi b7), (8, vi b8), (9, vi b9)] [vr 0 0] C f_x_Mo_tells_247_1 rfl ?_
        refine m_getr C e_x_Mo_tells_248 fg_Mo_60 rfl (by decide) rfl ?_
        refine m_blk 254 [(0, vr 0 0), (1, vi b1), (2, vi b2), (3, vi b3), (4, vi b4), (7, vi b7), (8, vi b8), (9, vi b9)] [vi b8, vi 0, vr 8 0] C f_x_Mo_tells_251_2 rfl ?_
        refine m_iast C e_x_Mo_tells_254 rfl (by decide) (by decide) (by decide) (by decide) ?_
        refine m_blk 257 [(0, vr 0 0), (1, vi b1), (2, vi b2), (3, vi b3), (4, vi b4), (7, vi b7), (8, vi b8), (9, vi b9)] [vi b7] C f_x_Mo_tells_255_1 rfl ?_
        exact m_iret C Rm E e_x_Mo_tells_257 (fin1 h)
      · have h := ifp c2 h
        refine m_blk 211 [(0, vr 0 0), (1, vi b1), (2, vi b2), (3, vi b3), (4, vi b4), (7, vi b7), (8, vi b8), (9, vi b9)] [vi 10, vi b9] C f_x_Mo_tells_207_2 rfl ?_
        obtain ⟨c3, h⟩ := igd h
        refine m_icmp_ge (tgt := 247) C e_x_Mo_tells_211 (by decide) c3 (by decide) (fun c4 => ?_) (fun c4 => ?_)
        · have h := ifp c4 h
          refine m_blk 248 [(0, vr 0 0), (1, vi b1), (2, vi b2), (3, vi b3), (4, vi b4), (7, vi b7), (8, vi b8), (9, vi b9)] [vr 0 0] C f_x_Mo_tells_247_1 rfl ?_
          refine m_getr C e_x_Mo_tells_248 fg_Mo_60 rfl (by decide) rfl ?_
          refine m_blk 254 [(0, vr 0 0), (1, vi b1), (2, vi b2), (3, vi b3), (4, vi b4), (7, vi b7), (8, vi b8), (9, vi b9)] [vi b8, vi 0, vr 8 0] C f_x_Mo_tells_251_2 rfl ?_
          refine m_iast C e_x_Mo_tells_254 rfl (by decide) (by decide) (by decide) (by decide) ?_
          refine m_blk 257 [(0, vr 0 0), (1, vi b1), (2, vi b2), (3, vi b3), (4, vi b4), (7, vi b7), (8, vi b8), (9, vi b9)] [vi b7] C f_x_Mo_tells_255_1 rfl ?_
          exact m_iret C Rm E e_x_Mo_tells_257 (fin1 h)
        · have h := ifn c4 h
          refine m_blk 215 [(0, vr 0 0), (1, vi b1), (2, vi b2), (3, vi b3), (4, vi b4), (7, vi b7), (8, vi b8), (9, vi b9)] [vr 0 0] C f_x_Mo_tells_214_1 rfl ?_
          refine m_getr C e_x_Mo_tells_215 fg_Mo_60 rfl (by decide) rfl ?_
          refine m_blk 221 [(0, vr 0 0), (1, vi b1), (2, vi b2), (3, vi b3), (4, vi b4), (7, vi b7), (8, vi b8), (9, vi b9)] [vi b9, vi 0, vr 8 0] C f_x_Mo_tells_218_2 rfl ?_
          refine m_iast C e_x_Mo_tells_221 rfl (by decide) (by decide) (by decide) (by decide) ?_
          refine m_blk 226 [(0, vr 0 0), (1, vi b1), (2, vi b2), (3, vi b3), (4, vi b4), (7, vi b7), (8, vi b8), (9, vi b9)] [vi b3, vi b2, vi b1, vr 0 0] C f_x_Mo_tells_222_4 rfl ?_
          obtain ⟨q5, e6, h⟩ := obd h
          refine m_callV C Rm Y [vi b1, vi b2, vi b3] [] (x_Mo_isSo l D B H0 ad _ b1 b2 b3 hS _ _ e6) cl_Mo_425 rfl (by decide) rfl rfl e_x_Mo_tells_226 rfl rfl rfl ⟨by decide, by decide⟩ ?_
          rintro _ _ ⟨rfl, rfl⟩
          show JM g D ad w0 q5.2 229 [(0, vr 0 0), (1, vi b1), (2, vi b2), (3, vi b3), (4, vi b4), (7, vi b7), (8, vi b8), (9, vi b9)] [vi q5.1]
          obtain ⟨c7, h⟩ := igd h
          refine m_if_eq (tgt := 241) C e_x_Mo_tells_229 (by decide) c7 (fun c8 => ?_) (fun c8 => ?_)
          · have h := ifp c8 h
            refine m_blk 201 [(9, vi (b9 + 1)), (0, vr 0 0), (1, vi b1), (2, vi b2), (3, vi b3), (4, vi b4), (7, vi b7), (8, vi b8)] [] C f_x_Mo_tells_241_2 rfl ?_
            refine m_loc [(0, vr 0 0), (1, vi b1), (2, vi b2), (3, vi b3), (4, vi b4), (7, vi b7), (8, vi b8), (9, vi (b9 + 1))] ⟨rfl, rfl, rfl, rfl, rfl, rfl, rfl, rfl, trivial⟩ ?_
            exact ih q5.2 b1 b2 b3 b4 b7 b8 (b9 + 1)  h
          · have h := ifn c8 h
            refine m_blk 201 [(9, vi (b9 + 1)), (7, vi (iOr b7 (iShl 1 b9))), (0, vr 0 0), (1, vi b1), (2, vi b2), (3, vi b3), (4, vi b4), (8, vi b8)] [] C f_x_Mo_tells_232_8 rfl ?_
            refine m_loc [(0, vr 0 0), (1, vi b1), (2, vi b2), (3, vi b3), (4, vi b4), (7, vi (iOr b7 (iShl 1 b9))), (8, vi b8), (9, vi (b9 + 1))] ⟨rfl, rfl, rfl, rfl, rfl, rfl, rfl, rfl, trivial⟩ ?_
            exact ih q5.2 b1 b2 b3 b4 (iOr b7 (iShl 1 b9)) b8 (b9 + 1)  h
  have hd_149 : ∀ (n : Nat) (A : mA) (b1 : Int) (b2 : Int) (b3 : Int) (b4 : Int) (b5 : Nat) (b7 : Int) (b8 : Int) , b5 < 200 → f_Mo_tells_149  n A b1 b2 b3 b4 b5 b7 b8 = some (r9, A9) → JM g D ad w0 A 149 [(0, vr 0 0), (1, vi b1), (2, vi b2), (3, vi b3), (4, vi b4), (5, vr 1 b5), (7, vi b7), (8, vi b8)] [] := by
    intro n
    induction n with
    | zero => intro A b1 b2 b3 b4 b5 b7 b8 h_b5 h; cases h
    | succ n ih =>
      intro A b1 b2 b3 b4 b5 b7 b8 h_b5 h
      unfold f_Mo_tells_149 at h
      refine m_blk 152 [(0, vr 0 0), (1, vi b1), (2, vi b2), (3, vi b3), (4, vi b4), (5, vr 1 b5), (7, vi b7), (8, vi b8)] [vi 2, vi b4] C f_x_Mo_tells_149_2 rfl ?_
      obtain ⟨c9, h⟩ := igd h
      refine m_icmp_ne (tgt := 190) C e_x_Mo_tells_152 (by decide) c9 (by decide) (fun c10 => ?_) (fun c10 => ?_)
      · have h := ifn c10 h
        refine m_blk 191 [(0, vr 0 0), (1, vi b1), (2, vi b2), (3, vi b3), (4, vi b4), (5, vr 1 b5), (7, vi b7), (8, vi b8)] [vr 0 0] C f_x_Mo_tells_190_1 rfl ?_
        refine m_getr C e_x_Mo_tells_191 fg_Mo_60 rfl (by decide) rfl ?_
        refine m_blk 195 [(0, vr 0 0), (1, vi b1), (2, vi b2), (3, vi b3), (4, vi b4), (5, vr 1 b5), (7, vi b7), (8, vi b8)] [vi 0, vr 8 0] C f_x_Mo_tells_194_1 rfl ?_
        refine m_iald C e_x_Mo_tells_195 rfl (by decide) (by decide) (by decide) (by decide) (A 8 0 0) rfl ?_
        refine m_blk 201 [(9, vi 0), (8, vi (A 8 0 0)), (0, vr 0 0), (1, vi b1), (2, vi b2), (3, vi b3), (4, vi b4), (5, vr 1 b5), (7, vi b7)] [] C f_x_Mo_tells_196_3 rfl ?_
        refine m_loc [(0, vr 0 0), (1, vi b1), (2, vi b2), (3, vi b3), (4, vi b4), (7, vi b7), (8, vi (A 8 0 0)), (9, vi 0)] ⟨rfl, rfl, rfl, rfl, rfl, rfl, rfl, rfl, trivial⟩ ?_
        exact hd_201 _ A b1 b2 b3 b4 b7 (A 8 0 0) 0  h
      · have h := ifp c10 h
        refine m_blk 159 [(0, vr 0 0), (1, vi b1), (2, vi b2), (3, vi b3), (4, vi b4), (5, vr 1 b5), (7, vi b7), (8, vi b8)] [vi 6, vi b8] C f_x_Mo_tells_155_2 rfl ?_
        obtain ⟨c11, h⟩ := igd h
        refine m_icmp_ge (tgt := 190) C e_x_Mo_tells_159 (by decide) c11 (by decide) (fun c12 => ?_) (fun c12 => ?_)
        · have h := ifp c12 h
          refine m_blk 191 [(0, vr 0 0), (1, vi b1), (2, vi b2), (3, vi b3), (4, vi b4), (5, vr 1 b5), (7, vi b7), (8, vi b8)] [vr 0 0] C f_x_Mo_tells_190_1 rfl ?_
          refine m_getr C e_x_Mo_tells_191 fg_Mo_60 rfl (by decide) rfl ?_
          refine m_blk 195 [(0, vr 0 0), (1, vi b1), (2, vi b2), (3, vi b3), (4, vi b4), (5, vr 1 b5), (7, vi b7), (8, vi b8)] [vi 0, vr 8 0] C f_x_Mo_tells_194_1 rfl ?_
          refine m_iald C e_x_Mo_tells_195 rfl (by decide) (by decide) (by decide) (by decide) (A 8 0 0) rfl ?_
          refine m_blk 201 [(9, vi 0), (8, vi (A 8 0 0)), (0, vr 0 0), (1, vi b1), (2, vi b2), (3, vi b3), (4, vi b4), (5, vr 1 b5), (7, vi b7)] [] C f_x_Mo_tells_196_3 rfl ?_
          refine m_loc [(0, vr 0 0), (1, vi b1), (2, vi b2), (3, vi b3), (4, vi b4), (7, vi b7), (8, vi (A 8 0 0)), (9, vi 0)] ⟨rfl, rfl, rfl, rfl, rfl, rfl, rfl, rfl, trivial⟩ ?_
          exact hd_201 _ A b1 b2 b3 b4 b7 (A 8 0 0) 0  h
        · have h := ifn c12 h
          refine m_blk 168 [(0, vr 0 0), (1, vi b1), (2, vi b2), (3, vi b3), (4, vi b4), (5, vr 1 b5), (7, vi b7), (8, vi b8)] [vi b8, vr 1 b5, vi b1, vr 0 0] C f_x_Mo_tells_162_4 rfl ?_
          obtain ⟨q13, e14, h⟩ := obd h
          refine m_callV C Rm Y [vi b1, vr 1 b5, vi b8] [] (x_Mo_otherwise l D B H0 ad _ b1 b5 b8 (h_b5) hS _ _ e14) cl_Mo_418 rfl (by decide) rfl rfl e_x_Mo_tells_168 rfl rfl rfl ⟨by decide, by decide⟩ ?_
          rintro _ _ ⟨rfl, rfl⟩
          show JM g D ad w0 q13.2 171 [(0, vr 0 0), (1, vi b1), (2, vi b2), (3, vi b3), (4, vi b4), (5, vr 1 b5), (7, vi b7), (8, vi b8)] [vi q13.1]
          refine m_blk 172 [(0, vr 0 0), (1, vi b1), (2, vi b2), (3, vi b3), (4, vi b4), (5, vr 1 b5), (7, vi b7), (8, vi b8)] [vi (-1), vi q13.1] C f_x_Mo_tells_171_1 rfl ?_
          obtain ⟨c15, h⟩ := igd h
          refine m_icmp_ne (tgt := 184) C e_x_Mo_tells_172 (by decide) c15 (by decide) (fun c16 => ?_) (fun c16 => ?_)
          · have h := ifn c16 h
            refine m_blk 149 [(8, vi (b8 + 1)), (0, vr 0 0), (1, vi b1), (2, vi b2), (3, vi b3), (4, vi b4), (5, vr 1 b5), (7, vi b7)] [] C f_x_Mo_tells_184_2 rfl ?_
            refine m_loc [(0, vr 0 0), (1, vi b1), (2, vi b2), (3, vi b3), (4, vi b4), (5, vr 1 b5), (7, vi b7), (8, vi (b8 + 1))] ⟨rfl, rfl, rfl, rfl, rfl, rfl, rfl, rfl, trivial⟩ ?_
            exact ih q13.2 b1 b2 b3 b4 b5 b7 (b8 + 1) (h_b5) h
          · have h := ifp c16 h
            refine m_blk 149 [(8, vi (b8 + 1)), (7, vi (iOr b7 (iShl 1 b8))), (0, vr 0 0), (1, vi b1), (2, vi b2), (3, vi b3), (4, vi b4), (5, vr 1 b5)] [] C f_x_Mo_tells_175_8 rfl ?_
            refine m_loc [(0, vr 0 0), (1, vi b1), (2, vi b2), (3, vi b3), (4, vi b4), (5, vr 1 b5), (7, vi (iOr b7 (iShl 1 b8))), (8, vi (b8 + 1))] ⟨rfl, rfl, rfl, rfl, rfl, rfl, rfl, rfl, trivial⟩ ?_
            exact ih q13.2 b1 b2 b3 b4 b5 (iOr b7 (iShl 1 b8)) (b8 + 1) (h_b5) h
  have hd_105 : ∀ (n : Nat) (A : mA) (b1 : Int) (b2 : Int) (b3 : Int) (b4 : Int) (b5 : Nat) (b7 : Int) (b8 : Int) , b5 < 200 → f_Mo_tells_105  n A b1 b2 b3 b4 b5 b7 b8 = some (r9, A9) → JM g D ad w0 A 105 [(0, vr 0 0), (1, vi b1), (2, vi b2), (3, vi b3), (4, vi b4), (5, vr 1 b5), (7, vi b7), (8, vi b8)] [] := by
    intro n
    induction n with
    | zero => intro A b1 b2 b3 b4 b5 b7 b8 h_b5 h; cases h
    | succ n ih =>
      intro A b1 b2 b3 b4 b5 b7 b8 h_b5 h
      unfold f_Mo_tells_105 at h
      refine m_blk 108 [(0, vr 0 0), (1, vi b1), (2, vi b2), (3, vi b3), (4, vi b4), (5, vr 1 b5), (7, vi b7), (8, vi b8)] [vi 1, vi b4] C f_x_Mo_tells_105_2 rfl ?_
      obtain ⟨c17, h⟩ := igd h
      refine m_icmp_ne (tgt := 146) C e_x_Mo_tells_108 (by decide) c17 (by decide) (fun c18 => ?_) (fun c18 => ?_)
      · have h := ifn c18 h
        refine m_blk 149 [(8, vi 0), (0, vr 0 0), (1, vi b1), (2, vi b2), (3, vi b3), (4, vi b4), (5, vr 1 b5), (7, vi b7)] [] C f_x_Mo_tells_146_2 rfl ?_
        refine m_loc [(0, vr 0 0), (1, vi b1), (2, vi b2), (3, vi b3), (4, vi b4), (5, vr 1 b5), (7, vi b7), (8, vi 0)] ⟨rfl, rfl, rfl, rfl, rfl, rfl, rfl, rfl, trivial⟩ ?_
        exact hd_149 _ A b1 b2 b3 b4 b5 b7 0 (h_b5) h
      · have h := ifp c18 h
        refine m_blk 114 [(0, vr 0 0), (1, vi b1), (2, vi b2), (3, vi b3), (4, vi b4), (5, vr 1 b5), (7, vi b7), (8, vi b8)] [vr 0 0, vi b8] C f_x_Mo_tells_111_2 rfl ?_
        refine m_geti C e_x_Mo_tells_114 fg_Mo_105 rfl (by decide) rfl (A 0 0 0) rfl ?_
        obtain ⟨c19, h⟩ := igd h
        obtain ⟨c20, h⟩ := igd h
        refine m_icmp_ge (tgt := 146) C e_x_Mo_tells_117 (by decide) c19 c20 (fun c21 => ?_) (fun c21 => ?_)
        · have h := ifp c21 h
          refine m_blk 149 [(8, vi 0), (0, vr 0 0), (1, vi b1), (2, vi b2), (3, vi b3), (4, vi b4), (5, vr 1 b5), (7, vi b7)] [] C f_x_Mo_tells_146_2 rfl ?_
          refine m_loc [(0, vr 0 0), (1, vi b1), (2, vi b2), (3, vi b3), (4, vi b4), (5, vr 1 b5), (7, vi b7), (8, vi 0)] ⟨rfl, rfl, rfl, rfl, rfl, rfl, rfl, rfl, trivial⟩ ?_
          exact hd_149 _ A b1 b2 b3 b4 b5 b7 0 (h_b5) h
        · have h := ifn c21 h
          refine m_blk 125 [(0, vr 0 0), (1, vi b1), (2, vi b2), (3, vi b3), (4, vi b4), (5, vr 1 b5), (7, vi b7), (8, vi b8)] [vi b3, vi b8, vi b1, vr 0 0] C f_x_Mo_tells_120_4 rfl ?_
          obtain ⟨q22, e23, h⟩ := obd h
          refine m_callV C Rm Y [vi b1, vi b8, vi b3] [] (x_Mo_isSo l D B H0 ad _ b1 b8 b3 hS _ _ e23) cl_Mo_425 rfl (by decide) rfl rfl e_x_Mo_tells_125 rfl rfl rfl ⟨by decide, by decide⟩ ?_
          rintro _ _ ⟨rfl, rfl⟩
          show JM g D ad w0 q22.2 128 [(0, vr 0 0), (1, vi b1), (2, vi b2), (3, vi b3), (4, vi b4), (5, vr 1 b5), (7, vi b7), (8, vi b8)] [vi q22.1]
          obtain ⟨c24, h⟩ := igd h
          refine m_if_eq (tgt := 140) C e_x_Mo_tells_128 (by decide) c24 (fun c25 => ?_) (fun c25 => ?_)
          · have h := ifp c25 h
            refine m_blk 105 [(8, vi (b8 + 1)), (0, vr 0 0), (1, vi b1), (2, vi b2), (3, vi b3), (4, vi b4), (5, vr 1 b5), (7, vi b7)] [] C f_x_Mo_tells_140_2 rfl ?_
            refine m_loc [(0, vr 0 0), (1, vi b1), (2, vi b2), (3, vi b3), (4, vi b4), (5, vr 1 b5), (7, vi b7), (8, vi (b8 + 1))] ⟨rfl, rfl, rfl, rfl, rfl, rfl, rfl, rfl, trivial⟩ ?_
            exact ih q22.2 b1 b2 b3 b4 b5 b7 (b8 + 1) (h_b5) h
          · have h := ifn c25 h
            refine m_blk 105 [(8, vi (b8 + 1)), (7, vi (iOr b7 (iShl 1 b8))), (0, vr 0 0), (1, vi b1), (2, vi b2), (3, vi b3), (4, vi b4), (5, vr 1 b5)] [] C f_x_Mo_tells_131_8 rfl ?_
            refine m_loc [(0, vr 0 0), (1, vi b1), (2, vi b2), (3, vi b3), (4, vi b4), (5, vr 1 b5), (7, vi (iOr b7 (iShl 1 b8))), (8, vi (b8 + 1))] ⟨rfl, rfl, rfl, rfl, rfl, rfl, rfl, rfl, trivial⟩ ?_
            exact ih q22.2 b1 b2 b3 b4 b5 (iOr b7 (iShl 1 b8)) (b8 + 1) (h_b5) h
  show JM g D ad w0 A 0 [(0, vr 0 0), (1, vi a0), (2, vi a1), (3, vi a2), (4, vi a3)] []
  unfold f_Mo_tells at h
  refine m_blk 1 [(0, vr 0 0), (1, vi a0), (2, vi a1), (3, vi a2), (4, vi a3)] [vi a0] C f_x_Mo_tells_0_1 rfl ?_
  obtain ⟨q26, e27, h⟩ := obd h
  refine m_callS C Rm Y [vi a0] [] (x_Mo_isSheet l D B H0 ad _ a0 hS _ _ e27) cl_Mo_422 e_x_Mo_tells_1 rfl rfl rfl ⟨by decide, by decide⟩ ?_
  rintro _ _ ⟨rfl, rfl⟩
  show JM g D ad w0 q26.2 4 [(0, vr 0 0), (1, vi a0), (2, vi a1), (3, vi a2), (4, vi a3)] [vi q26.1]
  obtain ⟨c28, h⟩ := igd h
  refine m_if_eq (tgt := 32) C e_x_Mo_tells_4 (by decide) c28 (fun c29 => ?_) (fun c29 => ?_)
  · have h := ifp c29 h
    refine m_blk 34 [(0, vr 0 0), (1, vi a0), (2, vi a1), (3, vi a2), (4, vi a3)] [vi (-2)] C f_x_Mo_tells_32_1 rfl ?_
    exact m_iret C Rm E e_x_Mo_tells_34 (fin1 h)
  · have h := ifn c29 h
    refine m_blk 9 [(0, vr 0 0), (1, vi a0), (2, vi a1), (3, vi a2), (4, vi a3)] [vi a1, vr 0 0] C f_x_Mo_tells_7_2 rfl ?_
    obtain ⟨q30, e31, h⟩ := obd h
    refine m_callV C Rm Y [vi a1] [] (x_Mo_isProgram l D B H0 ad _ a1 hS _ _ e31) cl_Mo_364 rfl (by decide) rfl rfl e_x_Mo_tells_9 rfl rfl rfl ⟨by decide, by decide⟩ ?_
    rintro _ _ ⟨rfl, rfl⟩
    show JM g D ad w0 q30.2 12 [(0, vr 0 0), (1, vi a0), (2, vi a1), (3, vi a2), (4, vi a3)] [vi q30.1]
    obtain ⟨c32, h⟩ := igd h
    refine m_if_eq (tgt := 32) C e_x_Mo_tells_12 (by decide) c32 (fun c33 => ?_) (fun c33 => ?_)
    · have h := ifp c33 h
      refine m_blk 34 [(0, vr 0 0), (1, vi a0), (2, vi a1), (3, vi a2), (4, vi a3)] [vi (-2)] C f_x_Mo_tells_32_1 rfl ?_
      exact m_iret C Rm E e_x_Mo_tells_34 (fin1 h)
    · have h := ifn c33 h
      refine m_blk 16 [(0, vr 0 0), (1, vi a0), (2, vi a1), (3, vi a2), (4, vi a3)] [vi a2] C f_x_Mo_tells_15_1 rfl ?_
      obtain ⟨q34, e35, h⟩ := obd h
      refine m_callS C Rm Y [vi a2] [] (x_Mo_isName l D B H0 ad _ a2 hS _ _ e35) cl_Mo_254 e_x_Mo_tells_16 rfl rfl rfl ⟨by decide, by decide⟩ ?_
      rintro _ _ ⟨rfl, rfl⟩
      show JM g D ad w0 q34.2 19 [(0, vr 0 0), (1, vi a0), (2, vi a1), (3, vi a2), (4, vi a3)] [vi q34.1]
      obtain ⟨c36, h⟩ := igd h
      refine m_if_eq (tgt := 32) C e_x_Mo_tells_19 (by decide) c36 (fun c37 => ?_) (fun c37 => ?_)
      · have h := ifp c37 h
        refine m_blk 34 [(0, vr 0 0), (1, vi a0), (2, vi a1), (3, vi a2), (4, vi a3)] [vi (-2)] C f_x_Mo_tells_32_1 rfl ?_
        exact m_iret C Rm E e_x_Mo_tells_34 (fin1 h)
      · have h := ifn c37 h
        refine m_blk 26 [(0, vr 0 0), (1, vi a0), (2, vi a1), (3, vi a2), (4, vi a3)] [vi 3, vi 0, vi a3] C f_x_Mo_tells_22_3 rfl ?_
        obtain ⟨q38, e39, h⟩ := obd h
        refine m_callS C Rm Y [vi a3, vi 0, vi 3] [] (x_Mo_in l D B H0 ad _ a3 0 3 hS _ _ e39) cl_Mo_108 e_x_Mo_tells_26 rfl rfl rfl ⟨by decide, by decide⟩ ?_
        rintro _ _ ⟨rfl, rfl⟩
        show JM g D ad w0 q38.2 29 [(0, vr 0 0), (1, vi a0), (2, vi a1), (3, vi a2), (4, vi a3)] [vi q38.1]
        obtain ⟨c40, h⟩ := igd h
        refine m_if_ne (tgt := 35) C e_x_Mo_tells_29 (by decide) c40 (fun c41 => ?_) (fun c41 => ?_)
        · have h := ifn c41 h
          refine m_blk 38 [(0, vr 0 0), (1, vi a0), (2, vi a1), (3, vi a2), (4, vi a3)] [vi (-1), vi a1, vr 0 0] C f_x_Mo_tells_35_3 rfl ?_
          obtain ⟨q42, e43, h⟩ := obd h
          refine m_callV C Rm Y [vi a1, vi (-1)] [] (x_Mo_oddsO l D B H0 ad _ a1 (-1) hS _ _ e43) cl_Mo_367 rfl (by decide) rfl rfl e_x_Mo_tells_38 rfl rfl rfl ⟨by decide, by decide⟩ ?_
          rintro _ _ ⟨rfl, rfl, g44⟩
          show JM g D ad w0 q42.2 41 [(0, vr 0 0), (1, vi a0), (2, vi a1), (3, vi a2), (4, vi a3)] [vr 1 q42.1.toNat]
          refine m_blk 46 [(5, vr 1 q42.1.toNat), (0, vr 0 0), (1, vi a0), (2, vi a1), (3, vi a2), (4, vi a3)] [vr 1 q42.1.toNat, vr 0 0] C f_x_Mo_tells_41_3 rfl ?_
          obtain ⟨q45, e46, h⟩ := obd h
          refine m_callV C Rm Y [vr 1 q42.1.toNat] [] (x_Mo_against l D B H0 ad _ q42.1.toNat (g44) hS _ _ e46) cl_Mo_380 rfl (by decide) rfl rfl e_x_Mo_tells_46 rfl rfl rfl ⟨by decide, by decide⟩ ?_
          rintro _ _ ⟨rfl, rfl⟩
          show JM g D ad w0 q45.2 49 [(5, vr 1 q42.1.toNat), (0, vr 0 0), (1, vi a0), (2, vi a1), (3, vi a2), (4, vi a3)] [vi q45.1]
          refine m_blk 53 [(6, vi q45.1), (5, vr 1 q42.1.toNat), (0, vr 0 0), (1, vi a0), (2, vi a1), (3, vi a2), (4, vi a3)] [vi q45.1] C f_x_Mo_tells_49_2 rfl ?_
          obtain ⟨c47, h⟩ := igd h
          refine m_if_eq (tgt := 59) C e_x_Mo_tells_53 (by decide) c47 (fun c48 => ?_) (fun c48 => ?_)
          · have h := ifp c48 h
            refine m_blk 60 [(6, vi q45.1), (5, vr 1 q42.1.toNat), (0, vr 0 0), (1, vi a0), (2, vi a1), (3, vi a2), (4, vi a3)] [vr 0 0] C f_x_Mo_tells_59_1 rfl ?_
            refine m_getr C e_x_Mo_tells_60 fg_Mo_92 rfl (by decide) rfl ?_
            refine m_blk 64 [(6, vi q45.1), (5, vr 1 q42.1.toNat), (0, vr 0 0), (1, vi a0), (2, vi a1), (3, vi a2), (4, vi a3)] [vi a0, vr 11 0] C f_x_Mo_tells_63_1 rfl ?_
            obtain ⟨c49, h⟩ := igd h
            refine m_iald C e_x_Mo_tells_64 rfl (by decide) (by decide) c49.1 c49.2 (q45.2 11 0 a0.toNat) rfl ?_
            obtain ⟨c50, h⟩ := igd h
            refine m_if_ge (tgt := 71) C e_x_Mo_tells_65 (by decide) c50 (fun c51 => ?_) (fun c51 => ?_)
            · have h := ifp c51 h
              refine m_blk 72 [(6, vi q45.1), (5, vr 1 q42.1.toNat), (0, vr 0 0), (1, vi a0), (2, vi a1), (3, vi a2), (4, vi a3)] [vr 0 0] C f_x_Mo_tells_71_1 rfl ?_
              refine m_getr C e_x_Mo_tells_72 fg_Mo_95 rfl (by decide) rfl ?_
              refine m_blk 76 [(6, vi q45.1), (5, vr 1 q42.1.toNat), (0, vr 0 0), (1, vi a0), (2, vi a1), (3, vi a2), (4, vi a3)] [vi a0, vr 12 0] C f_x_Mo_tells_75_1 rfl ?_
              refine m_iald C e_x_Mo_tells_76 rfl (by decide) (by decide) c49.1 c49.2 (q45.2 12 0 a0.toNat) rfl ?_
              refine m_blk 79 [(6, vi q45.1), (5, vr 1 q42.1.toNat), (0, vr 0 0), (1, vi a0), (2, vi a1), (3, vi a2), (4, vi a3)] [vi 10, vi (q45.2 12 0 a0.toNat)] C f_x_Mo_tells_77_1 rfl ?_
              obtain ⟨c52, h⟩ := igd h
              refine m_icmp_le (tgt := 85) C e_x_Mo_tells_79 (by decide) c52 (by decide) (fun c53 => ?_) (fun c53 => ?_)
              · have h := ifp c53 h
                refine m_blk 87 [(6, vi q45.1), (5, vr 1 q42.1.toNat), (0, vr 0 0), (1, vi a0), (2, vi a1), (3, vi a2), (4, vi a3)] [vi a3] C f_x_Mo_tells_85_1 rfl ?_
                obtain ⟨c54, h⟩ := igd h
                refine m_if_ne (tgt := 99) C e_x_Mo_tells_87 (by decide) c54 (fun c55 => ?_) (fun c55 => ?_)
                · have h := ifn c55 h
                  refine m_blk 105 [(8, vi 0), (7, vi 0), (6, vi q45.1), (5, vr 1 q42.1.toNat), (0, vr 0 0), (1, vi a0), (2, vi a1), (3, vi a2), (4, vi a3)] [] C f_x_Mo_tells_99_4 rfl ?_
                  refine m_loc [(0, vr 0 0), (1, vi a0), (2, vi a1), (3, vi a2), (4, vi a3), (5, vr 1 q42.1.toNat), (7, vi 0), (8, vi 0)] ⟨rfl, rfl, rfl, rfl, rfl, rfl, rfl, rfl, trivial⟩ ?_
                  exact hd_105 _ q45.2 a0 a1 a2 a3 q42.1.toNat 0 0 (g44) h
                · have h := ifp c55 h
                  refine m_blk 95 [(6, vi q45.1), (5, vr 1 q42.1.toNat), (0, vr 0 0), (1, vi a0), (2, vi a1), (3, vi a2), (4, vi a3)] [vi a2, vr 1 q42.1.toNat, vi a0, vr 0 0] C f_x_Mo_tells_90_4 rfl ?_
                  obtain ⟨q56, e57, h⟩ := obd h
                  refine m_callV C Rm Y [vi a0, vr 1 q42.1.toNat, vi a2] [] (x_Mo_otherwise l D B H0 ad _ a0 q42.1.toNat a2 (g44) hS _ _ e57) cl_Mo_418 rfl (by decide) rfl rfl e_x_Mo_tells_95 rfl rfl rfl ⟨by decide, by decide⟩ ?_
                  rintro _ _ ⟨rfl, rfl⟩
                  show JM g D ad w0 q56.2 98 [(6, vi q45.1), (5, vr 1 q42.1.toNat), (0, vr 0 0), (1, vi a0), (2, vi a1), (3, vi a2), (4, vi a3)] [vi q56.1]
                  exact m_iret C Rm E e_x_Mo_tells_98 (fin1 h)
              · have h := ifn c53 h
                refine m_blk 84 [(6, vi q45.1), (5, vr 1 q42.1.toNat), (0, vr 0 0), (1, vi a0), (2, vi a1), (3, vi a2), (4, vi a3)] [vi (-2)] C f_x_Mo_tells_82_1 rfl ?_
                exact m_iret C Rm E e_x_Mo_tells_84 (fin1 h)
            · have h := ifn c51 h
              refine m_blk 70 [(6, vi q45.1), (5, vr 1 q42.1.toNat), (0, vr 0 0), (1, vi a0), (2, vi a1), (3, vi a2), (4, vi a3)] [vi (-11)] C f_x_Mo_tells_68_1 rfl ?_
              exact m_iret C Rm E e_x_Mo_tells_70 (fin1 h)
          · have h := ifn c48 h
            refine m_blk 58 [(6, vi q45.1), (5, vr 1 q42.1.toNat), (0, vr 0 0), (1, vi a0), (2, vi a1), (3, vi a2), (4, vi a3)] [vi q45.1] C f_x_Mo_tells_56_1 rfl ?_
            exact m_iret C Rm E e_x_Mo_tells_58 (fin1 h)
        · have h := ifp c41 h
          refine m_blk 34 [(0, vr 0 0), (1, vi a0), (2, vi a1), (3, vi a2), (4, vi a3)] [vi (-2)] C f_x_Mo_tells_32_1 rfl ?_
          exact m_iret C Rm E e_x_Mo_tells_34 (fin1 h)

def f_Mo_film_67 : Nat → mA → Int → Int → Nat → Int → Option (Int × mA)
  | 0, _, _, _, _, _ => none
  | n + 1, A, b1, b3, b4, b6 => (if g32 b6 then (if 10 ≤ b6 then (some (10, A)) else (if (0 ≤ b1 ∧ b1 < ((4 : Nat) : Int)) then (Option.bind (f_Mo_hundredths A b4 b3 b6) (fun q5 => (if (0 ≤ b6 ∧ b6 < ((40 : Nat) : Int)) then (f_Mo_film_67  n (mu q5.2 49 b1.toNat b6.toNat q5.1) b1 b3 b4 (b6 + 1)) else none))) else none)) else none)
def f_Mo_film (A : mA) (a0 : Int) (a1 : Int) (a2 : Int) : Option (Int × mA) := (Option.bind (f_Mo_isSheet A a0) (fun q8 => (if g32 q8.1 then (if q8.1 = 0 then (some ((-2), q8.2)) else (Option.bind (f_Mo_isProgram q8.2 a1) (fun q12 => (if g32 q12.1 then (if q12.1 = 0 then (some ((-2), q12.2)) else (Option.bind (f_Mo_isName q12.2 a2) (fun q16 => (if g32 q16.1 then (if q16.1 = 0 then (some ((-2), q16.2)) else (Option.bind (f_Mo_oddsO q16.2 a1 (-1)) (fun q20 => (Option.bind (f_Mo_against q20.2 q20.1.toNat) (fun q23 => (if g32 q23.1 then (if q23.1 = 0 then (if (0 ≤ a0 ∧ a0 < ((4 : Nat) : Int)) then (f_Mo_film_67  20 (mu (mu q23.2 11 0 a0.toNat 0) 12 0 a0.toNat 10) a0 a2 q20.1.toNat 0) else none) else (some (q23.1, q23.2))) else none)))))) else none)))) else none)))) else none)))
theorem f_x_Mo_film_0_1 : mblkB b_Mo_film [(0, .iload_n 1, vi 0)] = true := by decide +kernel
theorem e_x_Mo_film_1 : decode b_Mo_film 1 = .ok (.invokestatic 422, 3) := by decide +kernel
theorem e_x_Mo_film_4 : decode b_Mo_film 4 = .ok (.ifCond .eq 18, 3) := by decide +kernel
theorem f_x_Mo_film_22_1 : mblkB b_Mo_film [(22, .bipush (-2), vi (-2))] = true := by decide +kernel
theorem e_x_Mo_film_24 : decode b_Mo_film 24 = .ok (.ireturn, 1) := by decide +kernel
theorem f_x_Mo_film_7_2 : mblkB b_Mo_film [(7, .aload_n 0, vi 0), (8, .iload_n 2, vi 0)] = true := by decide +kernel
theorem e_x_Mo_film_9 : decode b_Mo_film 9 = .ok (.invokevirtual 364, 3) := by decide +kernel
theorem e_x_Mo_film_12 : decode b_Mo_film 12 = .ok (.ifCond .eq 10, 3) := by decide +kernel
theorem f_x_Mo_film_15_1 : mblkB b_Mo_film [(15, .iload_n 3, vi 0)] = true := by decide +kernel
theorem e_x_Mo_film_16 : decode b_Mo_film 16 = .ok (.invokestatic 254, 3) := by decide +kernel
theorem e_x_Mo_film_19 : decode b_Mo_film 19 = .ok (.ifCond .ne 6, 3) := by decide +kernel
theorem f_x_Mo_film_25_3 : mblkB b_Mo_film [(25, .aload_n 0, vi 0), (26, .iload_n 2, vi 0), (27, .iconst (-1), vi (-1))] = true := by decide +kernel
theorem e_x_Mo_film_28 : decode b_Mo_film 28 = .ok (.invokevirtual 367, 3) := by decide +kernel
theorem f_x_Mo_film_31_3 : mblkB b_Mo_film [(31, .astore 4, vi 0), (33, .aload_n 0, vi 0), (34, .aload 4, vi 0)] = true := by decide +kernel
theorem e_x_Mo_film_36 : decode b_Mo_film 36 = .ok (.invokevirtual 380, 3) := by decide +kernel
theorem f_x_Mo_film_39_2 : mblkB b_Mo_film [(39, .istore 5, vi 0), (41, .iload 5, vi 0)] = true := by decide +kernel
theorem e_x_Mo_film_43 : decode b_Mo_film 43 = .ok (.ifCond .eq 6, 3) := by decide +kernel
theorem f_x_Mo_film_49_1 : mblkB b_Mo_film [(49, .aload_n 0, vi 0)] = true := by decide +kernel
theorem e_x_Mo_film_50 : decode b_Mo_film 50 = .ok (.getfield 92, 3) := by decide +kernel
theorem f_x_Mo_film_53_2 : mblkB b_Mo_film [(53, .iload_n 1, vi 0), (54, .iconst 0, vi 0)] = true := by decide +kernel
theorem e_x_Mo_film_55 : decode b_Mo_film 55 = .ok (.iastore, 1) := by decide +kernel
theorem f_x_Mo_film_56_1 : mblkB b_Mo_film [(56, .aload_n 0, vi 0)] = true := by decide +kernel
theorem e_x_Mo_film_57 : decode b_Mo_film 57 = .ok (.getfield 95, 3) := by decide +kernel
theorem f_x_Mo_film_60_2 : mblkB b_Mo_film [(60, .iload_n 1, vi 0), (61, .bipush 10, vi 10)] = true := by decide +kernel
theorem e_x_Mo_film_63 : decode b_Mo_film 63 = .ok (.iastore, 1) := by decide +kernel
theorem f_x_Mo_film_64_2 : mblkB b_Mo_film [(64, .iconst 0, vi 0), (65, .istore 6, vi 0)] = true := by decide +kernel
theorem f_x_Mo_film_46_1 : mblkB b_Mo_film [(46, .iload 5, vi 0)] = true := by decide +kernel
theorem e_x_Mo_film_48 : decode b_Mo_film 48 = .ok (.ireturn, 1) := by decide +kernel
theorem f_x_Mo_film_67_2 : mblkB b_Mo_film [(67, .iload 6, vi 0), (69, .bipush 10, vi 10)] = true := by decide +kernel
theorem e_x_Mo_film_71 : decode b_Mo_film 71 = .ok (.if_icmp .ge 26, 3) := by decide +kernel
theorem f_x_Mo_film_97_1 : mblkB b_Mo_film [(97, .bipush 10, vi 10)] = true := by decide +kernel
theorem e_x_Mo_film_99 : decode b_Mo_film 99 = .ok (.ireturn, 1) := by decide +kernel
theorem f_x_Mo_film_74_1 : mblkB b_Mo_film [(74, .aload_n 0, vi 0)] = true := by decide +kernel
theorem e_x_Mo_film_75 : decode b_Mo_film 75 = .ok (.getfield 98, 3) := by decide +kernel
theorem f_x_Mo_film_78_1 : mblkB b_Mo_film [(78, .iload_n 1, vi 0)] = true := by decide +kernel
theorem e_x_Mo_film_79 : decode b_Mo_film 79 = .ok (.aaload, 1) := by decide +kernel
theorem f_x_Mo_film_80_4 : mblkB b_Mo_film [(80, .iload 6, vi 0), (82, .aload 4, vi 0), (84, .iload_n 3, vi 0), (85, .iload 6, vi 0)] = true := by decide +kernel
theorem e_x_Mo_film_87 : decode b_Mo_film 87 = .ok (.invokestatic 414, 3) := by decide +kernel
theorem e_x_Mo_film_90 : decode b_Mo_film 90 = .ok (.iastore, 1) := by decide +kernel
theorem f_x_Mo_film_91_2 : mblkB b_Mo_film [(91, .iinc 6 1, vi 1), (94, .goto (-27), vi 67)] = true := by decide +kernel
set_option maxHeartbeats 4000000 in
set_option maxRecDepth 20000 in
theorem x_Mo_film  : ∀ (l : Launch) (D : va_G) (B : Nat) (H0 : Heap) (ad : mAd) (A : mA) (a0 : Int) (a1 : Int) (a2 : Int) (hS : mStr D ad) (r9 : Int) (A9 : mA), f_Mo_film  A a0 a1 a2 = some (r9, A9) → mMet l D B H0 ad y_Mo_film b_Mo_film 7 (some .int) 1083 35675 [vr 0 0, vi a0, vi a1, vi a2] A (fun v A' => v = some (vi r9) ∧ A' = A9) := by
  intro l D B H0 ad A a0 a1 a2  hS r9 A9 h
  refine m_met (by decide) rfl (fun g w0 C Rm Y E => ?_)
  have hd_67 : ∀ (n : Nat) (A : mA) (b1 : Int) (b3 : Int) (b4 : Nat) (b6 : Int) , b4 < 200 → f_Mo_film_67  n A b1 b3 b4 b6 = some (r9, A9) → JM g D ad w0 A 67 [(0, vr 0 0), (1, vi b1), (3, vi b3), (4, vr 1 b4), (6, vi b6)] [] := by
    intro n
    induction n with
    | zero => intro A b1 b3 b4 b6 h_b4 h; cases h
    | succ n ih =>
      intro A b1 b3 b4 b6 h_b4 h
      unfold f_Mo_film_67 at h
      refine m_blk 71 [(0, vr 0 0), (1, vi b1), (3, vi b3), (4, vr 1 b4), (6, vi b6)] [vi 10, vi b6] C f_x_Mo_film_67_2 rfl ?_
      obtain ⟨c1, h⟩ := igd h
      refine m_icmp_ge (tgt := 97) C e_x_Mo_film_71 (by decide) c1 (by decide) (fun c2 => ?_) (fun c2 => ?_)
      · have h := ifp c2 h
        refine m_blk 99 [(0, vr 0 0), (1, vi b1), (3, vi b3), (4, vr 1 b4), (6, vi b6)] [vi 10] C f_x_Mo_film_97_1 rfl ?_
        exact m_iret C Rm E e_x_Mo_film_99 (fin1 h)
      · have h := ifn c2 h
        refine m_blk 75 [(0, vr 0 0), (1, vi b1), (3, vi b3), (4, vr 1 b4), (6, vi b6)] [vr 0 0] C f_x_Mo_film_74_1 rfl ?_
        refine m_getr C e_x_Mo_film_75 fg_Mo_98 rfl (by decide) rfl ?_
        refine m_blk 79 [(0, vr 0 0), (1, vi b1), (3, vi b3), (4, vr 1 b4), (6, vi b6)] [vi b1, vr 29 0] C f_x_Mo_film_78_1 rfl ?_
        obtain ⟨c3, h⟩ := igd h
        have k4 : b1.toNat < 4 := by omega
        refine m_aald C b1.toNat e_x_Mo_film_79 rfl rfl rfl (by decide) (by decide) c3.1 c3.2 (mz _ _) ?_
        refine m_blk 87 [(0, vr 0 0), (1, vi b1), (3, vi b3), (4, vr 1 b4), (6, vi b6)] [vi b6, vi b3, vr 1 b4, vi b6, vr 49 b1.toNat] C f_x_Mo_film_80_4 rfl ?_
        obtain ⟨q5, e6, h⟩ := obd h
        refine m_callS C Rm Y [vr 1 b4, vi b3, vi b6] [vi b6, vr 49 b1.toNat] (x_Mo_hundredths l D B H0 ad _ b4 b3 b6 (h_b4) hS _ _ e6) cl_Mo_414 e_x_Mo_film_87 rfl rfl rfl ⟨by decide, by decide⟩ ?_
        rintro _ _ ⟨rfl, rfl⟩
        show JM g D ad w0 q5.2 90 [(0, vr 0 0), (1, vi b1), (3, vi b3), (4, vr 1 b4), (6, vi b6)] [vi q5.1, vi b6, vr 49 b1.toNat]
        obtain ⟨c7, h⟩ := igd h
        refine m_iast C e_x_Mo_film_90 rfl (k4) (by decide) c7.1 c7.2 ?_
        refine m_blk 67 [(6, vi (b6 + 1)), (0, vr 0 0), (1, vi b1), (3, vi b3), (4, vr 1 b4)] [] C f_x_Mo_film_91_2 rfl ?_
        refine m_loc [(0, vr 0 0), (1, vi b1), (3, vi b3), (4, vr 1 b4), (6, vi (b6 + 1))] ⟨rfl, rfl, rfl, rfl, rfl, trivial⟩ ?_
        exact ih (mu q5.2 49 b1.toNat b6.toNat q5.1) b1 b3 b4 (b6 + 1) (h_b4) h
  show JM g D ad w0 A 0 [(0, vr 0 0), (1, vi a0), (2, vi a1), (3, vi a2)] []
  unfold f_Mo_film at h
  refine m_blk 1 [(0, vr 0 0), (1, vi a0), (2, vi a1), (3, vi a2)] [vi a0] C f_x_Mo_film_0_1 rfl ?_
  obtain ⟨q8, e9, h⟩ := obd h
  refine m_callS C Rm Y [vi a0] [] (x_Mo_isSheet l D B H0 ad _ a0 hS _ _ e9) cl_Mo_422 e_x_Mo_film_1 rfl rfl rfl ⟨by decide, by decide⟩ ?_
  rintro _ _ ⟨rfl, rfl⟩
  show JM g D ad w0 q8.2 4 [(0, vr 0 0), (1, vi a0), (2, vi a1), (3, vi a2)] [vi q8.1]
  obtain ⟨c10, h⟩ := igd h
  refine m_if_eq (tgt := 22) C e_x_Mo_film_4 (by decide) c10 (fun c11 => ?_) (fun c11 => ?_)
  · have h := ifp c11 h
    refine m_blk 24 [(0, vr 0 0), (1, vi a0), (2, vi a1), (3, vi a2)] [vi (-2)] C f_x_Mo_film_22_1 rfl ?_
    exact m_iret C Rm E e_x_Mo_film_24 (fin1 h)
  · have h := ifn c11 h
    refine m_blk 9 [(0, vr 0 0), (1, vi a0), (2, vi a1), (3, vi a2)] [vi a1, vr 0 0] C f_x_Mo_film_7_2 rfl ?_
    obtain ⟨q12, e13, h⟩ := obd h
    refine m_callV C Rm Y [vi a1] [] (x_Mo_isProgram l D B H0 ad _ a1 hS _ _ e13) cl_Mo_364 rfl (by decide) rfl rfl e_x_Mo_film_9 rfl rfl rfl ⟨by decide, by decide⟩ ?_
    rintro _ _ ⟨rfl, rfl⟩
    show JM g D ad w0 q12.2 12 [(0, vr 0 0), (1, vi a0), (2, vi a1), (3, vi a2)] [vi q12.1]
    obtain ⟨c14, h⟩ := igd h
    refine m_if_eq (tgt := 22) C e_x_Mo_film_12 (by decide) c14 (fun c15 => ?_) (fun c15 => ?_)
    · have h := ifp c15 h
      refine m_blk 24 [(0, vr 0 0), (1, vi a0), (2, vi a1), (3, vi a2)] [vi (-2)] C f_x_Mo_film_22_1 rfl ?_
      exact m_iret C Rm E e_x_Mo_film_24 (fin1 h)
    · have h := ifn c15 h
      refine m_blk 16 [(0, vr 0 0), (1, vi a0), (2, vi a1), (3, vi a2)] [vi a2] C f_x_Mo_film_15_1 rfl ?_
      obtain ⟨q16, e17, h⟩ := obd h
      refine m_callS C Rm Y [vi a2] [] (x_Mo_isName l D B H0 ad _ a2 hS _ _ e17) cl_Mo_254 e_x_Mo_film_16 rfl rfl rfl ⟨by decide, by decide⟩ ?_
      rintro _ _ ⟨rfl, rfl⟩
      show JM g D ad w0 q16.2 19 [(0, vr 0 0), (1, vi a0), (2, vi a1), (3, vi a2)] [vi q16.1]
      obtain ⟨c18, h⟩ := igd h
      refine m_if_ne (tgt := 25) C e_x_Mo_film_19 (by decide) c18 (fun c19 => ?_) (fun c19 => ?_)
      · have h := ifn c19 h
        refine m_blk 28 [(0, vr 0 0), (1, vi a0), (2, vi a1), (3, vi a2)] [vi (-1), vi a1, vr 0 0] C f_x_Mo_film_25_3 rfl ?_
        obtain ⟨q20, e21, h⟩ := obd h
        refine m_callV C Rm Y [vi a1, vi (-1)] [] (x_Mo_oddsO l D B H0 ad _ a1 (-1) hS _ _ e21) cl_Mo_367 rfl (by decide) rfl rfl e_x_Mo_film_28 rfl rfl rfl ⟨by decide, by decide⟩ ?_
        rintro _ _ ⟨rfl, rfl, g22⟩
        show JM g D ad w0 q20.2 31 [(0, vr 0 0), (1, vi a0), (2, vi a1), (3, vi a2)] [vr 1 q20.1.toNat]
        refine m_blk 36 [(4, vr 1 q20.1.toNat), (0, vr 0 0), (1, vi a0), (2, vi a1), (3, vi a2)] [vr 1 q20.1.toNat, vr 0 0] C f_x_Mo_film_31_3 rfl ?_
        obtain ⟨q23, e24, h⟩ := obd h
        refine m_callV C Rm Y [vr 1 q20.1.toNat] [] (x_Mo_against l D B H0 ad _ q20.1.toNat (g22) hS _ _ e24) cl_Mo_380 rfl (by decide) rfl rfl e_x_Mo_film_36 rfl rfl rfl ⟨by decide, by decide⟩ ?_
        rintro _ _ ⟨rfl, rfl⟩
        show JM g D ad w0 q23.2 39 [(4, vr 1 q20.1.toNat), (0, vr 0 0), (1, vi a0), (2, vi a1), (3, vi a2)] [vi q23.1]
        refine m_blk 43 [(5, vi q23.1), (4, vr 1 q20.1.toNat), (0, vr 0 0), (1, vi a0), (2, vi a1), (3, vi a2)] [vi q23.1] C f_x_Mo_film_39_2 rfl ?_
        obtain ⟨c25, h⟩ := igd h
        refine m_if_eq (tgt := 49) C e_x_Mo_film_43 (by decide) c25 (fun c26 => ?_) (fun c26 => ?_)
        · have h := ifp c26 h
          refine m_blk 50 [(5, vi q23.1), (4, vr 1 q20.1.toNat), (0, vr 0 0), (1, vi a0), (2, vi a1), (3, vi a2)] [vr 0 0] C f_x_Mo_film_49_1 rfl ?_
          refine m_getr C e_x_Mo_film_50 fg_Mo_92 rfl (by decide) rfl ?_
          refine m_blk 55 [(5, vi q23.1), (4, vr 1 q20.1.toNat), (0, vr 0 0), (1, vi a0), (2, vi a1), (3, vi a2)] [vi 0, vi a0, vr 11 0] C f_x_Mo_film_53_2 rfl ?_
          obtain ⟨c27, h⟩ := igd h
          refine m_iast C e_x_Mo_film_55 rfl (by decide) (by decide) c27.1 c27.2 ?_
          refine m_blk 57 [(5, vi q23.1), (4, vr 1 q20.1.toNat), (0, vr 0 0), (1, vi a0), (2, vi a1), (3, vi a2)] [vr 0 0] C f_x_Mo_film_56_1 rfl ?_
          refine m_getr C e_x_Mo_film_57 fg_Mo_95 rfl (by decide) rfl ?_
          refine m_blk 63 [(5, vi q23.1), (4, vr 1 q20.1.toNat), (0, vr 0 0), (1, vi a0), (2, vi a1), (3, vi a2)] [vi 10, vi a0, vr 12 0] C f_x_Mo_film_60_2 rfl ?_
          refine m_iast C e_x_Mo_film_63 rfl (by decide) (by decide) c27.1 c27.2 ?_
          refine m_blk 67 [(6, vi 0), (5, vi q23.1), (4, vr 1 q20.1.toNat), (0, vr 0 0), (1, vi a0), (2, vi a1), (3, vi a2)] [] C f_x_Mo_film_64_2 rfl ?_
          refine m_loc [(0, vr 0 0), (1, vi a0), (3, vi a2), (4, vr 1 q20.1.toNat), (6, vi 0)] ⟨rfl, rfl, rfl, rfl, rfl, trivial⟩ ?_
          exact hd_67 _ (mu (mu q23.2 11 0 a0.toNat 0) 12 0 a0.toNat 10) a0 a2 q20.1.toNat 0 (g22) h
        · have h := ifn c26 h
          refine m_blk 48 [(5, vi q23.1), (4, vr 1 q20.1.toNat), (0, vr 0 0), (1, vi a0), (2, vi a1), (3, vi a2)] [vi q23.1] C f_x_Mo_film_46_1 rfl ?_
          exact m_iret C Rm E e_x_Mo_film_48 (fin1 h)
      · have h := ifp c19 h
        refine m_blk 24 [(0, vr 0 0), (1, vi a0), (2, vi a1), (3, vi a2)] [vi (-2)] C f_x_Mo_film_22_1 rfl ?_
        exact m_iret C Rm E e_x_Mo_film_24 (fin1 h)

def f_Mo_sheet_65 : Nat → mA → Int → Int → Option (Int × mA)
  | 0, _, _, _ => none
  | n + 1, A, b1, b4 => (if g32 b4 then (if 40 ≤ b4 then (some (1, A)) else (if (0 ≤ b1 ∧ b1 < ((4 : Nat) : Int)) then (if (0 ≤ b4 ∧ b4 < ((40 : Nat) : Int)) then (f_Mo_sheet_65  n (mu A 49 b1.toNat b4.toNat 0) b1 (b4 + 1)) else none) else none)) else none)
def f_Mo_sheet (A : mA) (a0 : Int) (a1 : Int) (a2 : Int) : Option (Int × mA) := (Option.bind (f_Mo_isSheet A a0) (fun q6 => (if g32 q6.1 then (if q6.1 = 0 then (some ((-2), q6.2)) else (Option.bind (f_Mo_in q6.2 a1 (-1) 1) (fun q10 => (if g32 q10.1 then (if q10.1 = 0 then (some ((-2), q10.2)) else (if g32 a1 then (if a1 < 0 then (if a1 < 0 then (if (0 ≤ a0 ∧ a0 < ((4 : Nat) : Int)) then (if 0 ≤ a1 then (f_Mo_sheet_65  50 (mu (mu q10.2 11 0 a0.toNat a1) 12 0 a0.toNat a2) a0 0) else (f_Mo_sheet_65  50 (mu (mu q10.2 11 0 a0.toNat a1) 12 0 a0.toNat 0) a0 0)) else none) else (if g32 a2 then (if 0 ≤ a2 then (if (0 ≤ a0 ∧ a0 < ((4 : Nat) : Int)) then (if 0 ≤ a1 then (f_Mo_sheet_65  50 (mu (mu q10.2 11 0 a0.toNat a1) 12 0 a0.toNat a2) a0 0) else (f_Mo_sheet_65  50 (mu (mu q10.2 11 0 a0.toNat a1) 12 0 a0.toNat 0) a0 0)) else none) else (some ((-14), q10.2))) else none)) else (if g32 a2 then (if a2 ≤ 40 then (if a1 < 0 then (if (0 ≤ a0 ∧ a0 < ((4 : Nat) : Int)) then (if 0 ≤ a1 then (f_Mo_sheet_65  50 (mu (mu q10.2 11 0 a0.toNat a1) 12 0 a0.toNat a2) a0 0) else (f_Mo_sheet_65  50 (mu (mu q10.2 11 0 a0.toNat a1) 12 0 a0.toNat 0) a0 0)) else none) else (if 0 ≤ a2 then (if (0 ≤ a0 ∧ a0 < ((4 : Nat) : Int)) then (if 0 ≤ a1 then (f_Mo_sheet_65  50 (mu (mu q10.2 11 0 a0.toNat a1) 12 0 a0.toNat a2) a0 0) else (f_Mo_sheet_65  50 (mu (mu q10.2 11 0 a0.toNat a1) 12 0 a0.toNat 0) a0 0)) else none) else (some ((-14), q10.2)))) else (some ((-2), q10.2))) else none)) else none)) else none)))) else none)))
theorem f_x_Mo_sheet_0_1 : mblkB b_Mo_sheet [(0, .iload_n 1, vi 0)] = true := by decide +kernel
theorem e_x_Mo_sheet_1 : decode b_Mo_sheet 1 = .ok (.invokestatic 422, 3) := by decide +kernel
theorem e_x_Mo_sheet_4 : decode b_Mo_sheet 4 = .ok (.ifCond .eq 22, 3) := by decide +kernel
theorem f_x_Mo_sheet_26_1 : mblkB b_Mo_sheet [(26, .bipush (-2), vi (-2))] = true := by decide +kernel
theorem e_x_Mo_sheet_28 : decode b_Mo_sheet 28 = .ok (.ireturn, 1) := by decide +kernel
theorem f_x_Mo_sheet_7_3 : mblkB b_Mo_sheet [(7, .iload_n 2, vi 0), (8, .iconst (-1), vi (-1)), (9, .iconst 1, vi 1)] = true := by decide +kernel
theorem e_x_Mo_sheet_10 : decode b_Mo_sheet 10 = .ok (.invokestatic 108, 3) := by decide +kernel
theorem e_x_Mo_sheet_13 : decode b_Mo_sheet 13 = .ok (.ifCond .eq 13, 3) := by decide +kernel
theorem f_x_Mo_sheet_16_1 : mblkB b_Mo_sheet [(16, .iload_n 2, vi 0)] = true := by decide +kernel
theorem e_x_Mo_sheet_17 : decode b_Mo_sheet 17 = .ok (.ifCond .lt 12, 3) := by decide +kernel
theorem f_x_Mo_sheet_29_1 : mblkB b_Mo_sheet [(29, .iload_n 2, vi 0)] = true := by decide +kernel
theorem e_x_Mo_sheet_30 : decode b_Mo_sheet 30 = .ok (.ifCond .lt 10, 3) := by decide +kernel
theorem f_x_Mo_sheet_40_1 : mblkB b_Mo_sheet [(40, .aload_n 0, vi 0)] = true := by decide +kernel
theorem e_x_Mo_sheet_41 : decode b_Mo_sheet 41 = .ok (.getfield 92, 3) := by decide +kernel
theorem f_x_Mo_sheet_44_2 : mblkB b_Mo_sheet [(44, .iload_n 1, vi 0), (45, .iload_n 2, vi 0)] = true := by decide +kernel
theorem e_x_Mo_sheet_46 : decode b_Mo_sheet 46 = .ok (.iastore, 1) := by decide +kernel
theorem f_x_Mo_sheet_47_1 : mblkB b_Mo_sheet [(47, .aload_n 0, vi 0)] = true := by decide +kernel
theorem e_x_Mo_sheet_48 : decode b_Mo_sheet 48 = .ok (.getfield 95, 3) := by decide +kernel
theorem f_x_Mo_sheet_51_2 : mblkB b_Mo_sheet [(51, .iload_n 1, vi 0), (52, .iload_n 2, vi 0)] = true := by decide +kernel
theorem e_x_Mo_sheet_53 : decode b_Mo_sheet 53 = .ok (.ifCond .ge 7, 3) := by decide +kernel
theorem f_x_Mo_sheet_60_1 : mblkB b_Mo_sheet [(60, .iload_n 3, vi 0)] = true := by decide +kernel
theorem e_x_Mo_sheet_61 : decode b_Mo_sheet 61 = .ok (.iastore, 1) := by decide +kernel
theorem f_x_Mo_sheet_62_2 : mblkB b_Mo_sheet [(62, .iconst 0, vi 0), (63, .istore 4, vi 0)] = true := by decide +kernel
theorem f_x_Mo_sheet_56_2 : mblkB b_Mo_sheet [(56, .iconst 0, vi 0), (57, .goto 4, vi 61)] = true := by decide +kernel
theorem f_x_Mo_sheet_33_1 : mblkB b_Mo_sheet [(33, .iload_n 3, vi 0)] = true := by decide +kernel
theorem e_x_Mo_sheet_34 : decode b_Mo_sheet 34 = .ok (.ifCond .ge 6, 3) := by decide +kernel
theorem f_x_Mo_sheet_37_1 : mblkB b_Mo_sheet [(37, .bipush (-14), vi (-14))] = true := by decide +kernel
theorem e_x_Mo_sheet_39 : decode b_Mo_sheet 39 = .ok (.ireturn, 1) := by decide +kernel
theorem f_x_Mo_sheet_20_2 : mblkB b_Mo_sheet [(20, .iload_n 3, vi 0), (21, .bipush 40, vi 40)] = true := by decide +kernel
theorem e_x_Mo_sheet_23 : decode b_Mo_sheet 23 = .ok (.if_icmp .le 6, 3) := by decide +kernel
theorem f_x_Mo_sheet_65_2 : mblkB b_Mo_sheet [(65, .iload 4, vi 0), (67, .bipush 40, vi 40)] = true := by decide +kernel
theorem e_x_Mo_sheet_69 : decode b_Mo_sheet 69 = .ok (.if_icmp .ge 19, 3) := by decide +kernel
theorem f_x_Mo_sheet_88_1 : mblkB b_Mo_sheet [(88, .iconst 1, vi 1)] = true := by decide +kernel
theorem e_x_Mo_sheet_89 : decode b_Mo_sheet 89 = .ok (.ireturn, 1) := by decide +kernel
theorem f_x_Mo_sheet_72_1 : mblkB b_Mo_sheet [(72, .aload_n 0, vi 0)] = true := by decide +kernel
theorem e_x_Mo_sheet_73 : decode b_Mo_sheet 73 = .ok (.getfield 98, 3) := by decide +kernel
theorem f_x_Mo_sheet_76_1 : mblkB b_Mo_sheet [(76, .iload_n 1, vi 0)] = true := by decide +kernel
theorem e_x_Mo_sheet_77 : decode b_Mo_sheet 77 = .ok (.aaload, 1) := by decide +kernel
theorem f_x_Mo_sheet_78_2 : mblkB b_Mo_sheet [(78, .iload 4, vi 0), (80, .iconst 0, vi 0)] = true := by decide +kernel
theorem e_x_Mo_sheet_81 : decode b_Mo_sheet 81 = .ok (.iastore, 1) := by decide +kernel
theorem f_x_Mo_sheet_82_2 : mblkB b_Mo_sheet [(82, .iinc 4 1, vi 1), (85, .goto (-20), vi 65)] = true := by decide +kernel
set_option maxHeartbeats 4000000 in
set_option maxRecDepth 20000 in
theorem x_Mo_sheet  : ∀ (l : Launch) (D : va_G) (B : Nat) (H0 : Heap) (ad : mAd) (A : mA) (a0 : Int) (a1 : Int) (a2 : Int) (hS : mStr D ad) (r9 : Int) (A9 : mA), f_Mo_sheet  A a0 a1 a2 = some (r9, A9) → mMet l D B H0 ad y_Mo_sheet b_Mo_sheet 5 (some .int) 2 42 [vr 0 0, vi a0, vi a1, vi a2] A (fun v A' => v = some (vi r9) ∧ A' = A9) := by
  intro l D B H0 ad A a0 a1 a2  hS r9 A9 h
  refine m_met (by decide) rfl (fun g w0 C Rm Y E => ?_)
  have hd_65 : ∀ (n : Nat) (A : mA) (b1 : Int) (b4 : Int) , f_Mo_sheet_65  n A b1 b4 = some (r9, A9) → JM g D ad w0 A 65 [(0, vr 0 0), (1, vi b1), (4, vi b4)] [] := by
    intro n
    induction n with
    | zero => intro A b1 b4  h; cases h
    | succ n ih =>
      intro A b1 b4  h
      unfold f_Mo_sheet_65 at h
      refine m_blk 69 [(0, vr 0 0), (1, vi b1), (4, vi b4)] [vi 40, vi b4] C f_x_Mo_sheet_65_2 rfl ?_
      obtain ⟨c1, h⟩ := igd h
      refine m_icmp_ge (tgt := 88) C e_x_Mo_sheet_69 (by decide) c1 (by decide) (fun c2 => ?_) (fun c2 => ?_)
      · have h := ifp c2 h
        refine m_blk 89 [(0, vr 0 0), (1, vi b1), (4, vi b4)] [vi 1] C f_x_Mo_sheet_88_1 rfl ?_
        exact m_iret C Rm E e_x_Mo_sheet_89 (fin1 h)
      · have h := ifn c2 h
        refine m_blk 73 [(0, vr 0 0), (1, vi b1), (4, vi b4)] [vr 0 0] C f_x_Mo_sheet_72_1 rfl ?_
        refine m_getr C e_x_Mo_sheet_73 fg_Mo_98 rfl (by decide) rfl ?_
        refine m_blk 77 [(0, vr 0 0), (1, vi b1), (4, vi b4)] [vi b1, vr 29 0] C f_x_Mo_sheet_76_1 rfl ?_
        obtain ⟨c3, h⟩ := igd h
        have k4 : b1.toNat < 4 := by omega
        refine m_aald C b1.toNat e_x_Mo_sheet_77 rfl rfl rfl (by decide) (by decide) c3.1 c3.2 (mz _ _) ?_
        refine m_blk 81 [(0, vr 0 0), (1, vi b1), (4, vi b4)] [vi 0, vi b4, vr 49 b1.toNat] C f_x_Mo_sheet_78_2 rfl ?_
        obtain ⟨c5, h⟩ := igd h
        refine m_iast C e_x_Mo_sheet_81 rfl (k4) (by decide) c5.1 c5.2 ?_
        refine m_blk 65 [(4, vi (b4 + 1)), (0, vr 0 0), (1, vi b1)] [] C f_x_Mo_sheet_82_2 rfl ?_
        refine m_loc [(0, vr 0 0), (1, vi b1), (4, vi (b4 + 1))] ⟨rfl, rfl, rfl, trivial⟩ ?_
        exact ih (mu A 49 b1.toNat b4.toNat 0) b1 (b4 + 1)  h
  show JM g D ad w0 A 0 [(0, vr 0 0), (1, vi a0), (2, vi a1), (3, vi a2)] []
  unfold f_Mo_sheet at h
  refine m_blk 1 [(0, vr 0 0), (1, vi a0), (2, vi a1), (3, vi a2)] [vi a0] C f_x_Mo_sheet_0_1 rfl ?_
  obtain ⟨q6, e7, h⟩ := obd h
  refine m_callS C Rm Y [vi a0] [] (x_Mo_isSheet l D B H0 ad _ a0 hS _ _ e7) cl_Mo_422 e_x_Mo_sheet_1 rfl rfl rfl ⟨by decide, by decide⟩ ?_
  rintro _ _ ⟨rfl, rfl⟩
  show JM g D ad w0 q6.2 4 [(0, vr 0 0), (1, vi a0), (2, vi a1), (3, vi a2)] [vi q6.1]
  obtain ⟨c8, h⟩ := igd h
  refine m_if_eq (tgt := 26) C e_x_Mo_sheet_4 (by decide) c8 (fun c9 => ?_) (fun c9 => ?_)
  · have h := ifp c9 h
    refine m_blk 28 [(0, vr 0 0), (1, vi a0), (2, vi a1), (3, vi a2)] [vi (-2)] C f_x_Mo_sheet_26_1 rfl ?_
    exact m_iret C Rm E e_x_Mo_sheet_28 (fin1 h)
  · have h := ifn c9 h
    refine m_blk 10 [(0, vr 0 0), (1, vi a0), (2, vi a1), (3, vi a2)] [vi 1, vi (-1), vi a1] C f_x_Mo_sheet_7_3 rfl ?_
    obtain ⟨q10, e11, h⟩ := obd h
    refine m_callS C Rm Y [vi a1, vi (-1), vi 1] [] (x_Mo_in l D B H0 ad _ a1 (-1) 1 hS _ _ e11) cl_Mo_108 e_x_Mo_sheet_10 rfl rfl rfl ⟨by decide, by decide⟩ ?_
    rintro _ _ ⟨rfl, rfl⟩
    show JM g D ad w0 q10.2 13 [(0, vr 0 0), (1, vi a0), (2, vi a1), (3, vi a2)] [vi q10.1]
    obtain ⟨c12, h⟩ := igd h
    refine m_if_eq (tgt := 26) C e_x_Mo_sheet_13 (by decide) c12 (fun c13 => ?_) (fun c13 => ?_)
    · have h := ifp c13 h
      refine m_blk 28 [(0, vr 0 0), (1, vi a0), (2, vi a1), (3, vi a2)] [vi (-2)] C f_x_Mo_sheet_26_1 rfl ?_
      exact m_iret C Rm E e_x_Mo_sheet_28 (fin1 h)
    · have h := ifn c13 h
      refine m_blk 17 [(0, vr 0 0), (1, vi a0), (2, vi a1), (3, vi a2)] [vi a1] C f_x_Mo_sheet_16_1 rfl ?_
      obtain ⟨c14, h⟩ := igd h
      refine m_if_lt (tgt := 29) C e_x_Mo_sheet_17 (by decide) c14 (fun c15 => ?_) (fun c15 => ?_)
      · have h := ifp c15 h
        refine m_blk 30 [(0, vr 0 0), (1, vi a0), (2, vi a1), (3, vi a2)] [vi a1] C f_x_Mo_sheet_29_1 rfl ?_
        refine m_if_lt (tgt := 40) C e_x_Mo_sheet_30 (by decide) c14 (fun c16 => ?_) (fun c16 => ?_)
        · have h := ifp c16 h
          refine m_blk 41 [(0, vr 0 0), (1, vi a0), (2, vi a1), (3, vi a2)] [vr 0 0] C f_x_Mo_sheet_40_1 rfl ?_
          refine m_getr C e_x_Mo_sheet_41 fg_Mo_92 rfl (by decide) rfl ?_
          refine m_blk 46 [(0, vr 0 0), (1, vi a0), (2, vi a1), (3, vi a2)] [vi a1, vi a0, vr 11 0] C f_x_Mo_sheet_44_2 rfl ?_
          obtain ⟨c17, h⟩ := igd h
          refine m_iast C e_x_Mo_sheet_46 rfl (by decide) (by decide) c17.1 c17.2 ?_
          refine m_blk 48 [(0, vr 0 0), (1, vi a0), (2, vi a1), (3, vi a2)] [vr 0 0] C f_x_Mo_sheet_47_1 rfl ?_
          refine m_getr C e_x_Mo_sheet_48 fg_Mo_95 rfl (by decide) rfl ?_
          refine m_blk 53 [(0, vr 0 0), (1, vi a0), (2, vi a1), (3, vi a2)] [vi a1, vi a0, vr 12 0] C f_x_Mo_sheet_51_2 rfl ?_
          refine m_if_ge (tgt := 60) C e_x_Mo_sheet_53 (by decide) c14 (fun c18 => ?_) (fun c18 => ?_)
          · have h := ifp c18 h
            refine m_blk 61 [(0, vr 0 0), (1, vi a0), (2, vi a1), (3, vi a2)] [vi a2, vi a0, vr 12 0] C f_x_Mo_sheet_60_1 rfl ?_
            refine m_iast C e_x_Mo_sheet_61 rfl (by decide) (by decide) c17.1 c17.2 ?_
            refine m_blk 65 [(4, vi 0), (0, vr 0 0), (1, vi a0), (2, vi a1), (3, vi a2)] [] C f_x_Mo_sheet_62_2 rfl ?_
            refine m_loc [(0, vr 0 0), (1, vi a0), (4, vi 0)] ⟨rfl, rfl, rfl, trivial⟩ ?_
            exact hd_65 _ (mu (mu q10.2 11 0 a0.toNat a1) 12 0 a0.toNat a2) a0 0  h
          · have h := ifn c18 h
            refine m_blk 61 [(0, vr 0 0), (1, vi a0), (2, vi a1), (3, vi a2)] [vi 0, vi a0, vr 12 0] C f_x_Mo_sheet_56_2 rfl ?_
            refine m_iast C e_x_Mo_sheet_61 rfl (by decide) (by decide) c17.1 c17.2 ?_
            refine m_blk 65 [(4, vi 0), (0, vr 0 0), (1, vi a0), (2, vi a1), (3, vi a2)] [] C f_x_Mo_sheet_62_2 rfl ?_
            refine m_loc [(0, vr 0 0), (1, vi a0), (4, vi 0)] ⟨rfl, rfl, rfl, trivial⟩ ?_
            exact hd_65 _ (mu (mu q10.2 11 0 a0.toNat a1) 12 0 a0.toNat 0) a0 0  h
        · have h := ifn c16 h
          refine m_blk 34 [(0, vr 0 0), (1, vi a0), (2, vi a1), (3, vi a2)] [vi a2] C f_x_Mo_sheet_33_1 rfl ?_
          obtain ⟨c19, h⟩ := igd h
          refine m_if_ge (tgt := 40) C e_x_Mo_sheet_34 (by decide) c19 (fun c20 => ?_) (fun c20 => ?_)
          · have h := ifp c20 h
            refine m_blk 41 [(0, vr 0 0), (1, vi a0), (2, vi a1), (3, vi a2)] [vr 0 0] C f_x_Mo_sheet_40_1 rfl ?_
            refine m_getr C e_x_Mo_sheet_41 fg_Mo_92 rfl (by decide) rfl ?_
            refine m_blk 46 [(0, vr 0 0), (1, vi a0), (2, vi a1), (3, vi a2)] [vi a1, vi a0, vr 11 0] C f_x_Mo_sheet_44_2 rfl ?_
            obtain ⟨c21, h⟩ := igd h
            refine m_iast C e_x_Mo_sheet_46 rfl (by decide) (by decide) c21.1 c21.2 ?_
            refine m_blk 48 [(0, vr 0 0), (1, vi a0), (2, vi a1), (3, vi a2)] [vr 0 0] C f_x_Mo_sheet_47_1 rfl ?_
            refine m_getr C e_x_Mo_sheet_48 fg_Mo_95 rfl (by decide) rfl ?_
            refine m_blk 53 [(0, vr 0 0), (1, vi a0), (2, vi a1), (3, vi a2)] [vi a1, vi a0, vr 12 0] C f_x_Mo_sheet_51_2 rfl ?_
            refine m_if_ge (tgt := 60) C e_x_Mo_sheet_53 (by decide) c14 (fun c22 => ?_) (fun c22 => ?_)
            · have h := ifp c22 h
              refine m_blk 61 [(0, vr 0 0), (1, vi a0), (2, vi a1), (3, vi a2)] [vi a2, vi a0, vr 12 0] C f_x_Mo_sheet_60_1 rfl ?_
              refine m_iast C e_x_Mo_sheet_61 rfl (by decide) (by decide) c21.1 c21.2 ?_
              refine m_blk 65 [(4, vi 0), (0, vr 0 0), (1, vi a0), (2, vi a1), (3, vi a2)] [] C f_x_Mo_sheet_62_2 rfl ?_
              refine m_loc [(0, vr 0 0), (1, vi a0), (4, vi 0)] ⟨rfl, rfl, rfl, trivial⟩ ?_
              exact hd_65 _ (mu (mu q10.2 11 0 a0.toNat a1) 12 0 a0.toNat a2) a0 0  h
            · have h := ifn c22 h
              refine m_blk 61 [(0, vr 0 0), (1, vi a0), (2, vi a1), (3, vi a2)] [vi 0, vi a0, vr 12 0] C f_x_Mo_sheet_56_2 rfl ?_
              refine m_iast C e_x_Mo_sheet_61 rfl (by decide) (by decide) c21.1 c21.2 ?_
              refine m_blk 65 [(4, vi 0), (0, vr 0 0), (1, vi a0), (2, vi a1), (3, vi a2)] [] C f_x_Mo_sheet_62_2 rfl ?_
              refine m_loc [(0, vr 0 0), (1, vi a0), (4, vi 0)] ⟨rfl, rfl, rfl, trivial⟩ ?_
              exact hd_65 _ (mu (mu q10.2 11 0 a0.toNat a1) 12 0 a0.toNat 0) a0 0  h
          · have h := ifn c20 h
            refine m_blk 39 [(0, vr 0 0), (1, vi a0), (2, vi a1), (3, vi a2)] [vi (-14)] C f_x_Mo_sheet_37_1 rfl ?_
            exact m_iret C Rm E e_x_Mo_sheet_39 (fin1 h)
      · have h := ifn c15 h
        refine m_blk 23 [(0, vr 0 0), (1, vi a0), (2, vi a1), (3, vi a2)] [vi 40, vi a2] C f_x_Mo_sheet_20_2 rfl ?_
        obtain ⟨c23, h⟩ := igd h
        refine m_icmp_le (tgt := 29) C e_x_Mo_sheet_23 (by decide) c23 (by decide) (fun c24 => ?_) (fun c24 => ?_)
        · have h := ifp c24 h
          refine m_blk 30 [(0, vr 0 0), (1, vi a0), (2, vi a1), (3, vi a2)] [vi a1] C f_x_Mo_sheet_29_1 rfl ?_
          refine m_if_lt (tgt := 40) C e_x_Mo_sheet_30 (by decide) c14 (fun c25 => ?_) (fun c25 => ?_)
          · have h := ifp c25 h
            refine m_blk 41 [(0, vr 0 0), (1, vi a0), (2, vi a1), (3, vi a2)] [vr 0 0] C f_x_Mo_sheet_40_1 rfl ?_
            refine m_getr C e_x_Mo_sheet_41 fg_Mo_92 rfl (by decide) rfl ?_
            refine m_blk 46 [(0, vr 0 0), (1, vi a0), (2, vi a1), (3, vi a2)] [vi a1, vi a0, vr 11 0] C f_x_Mo_sheet_44_2 rfl ?_
            obtain ⟨c26, h⟩ := igd h
            refine m_iast C e_x_Mo_sheet_46 rfl (by decide) (by decide) c26.1 c26.2 ?_
            refine m_blk 48 [(0, vr 0 0), (1, vi a0), (2, vi a1), (3, vi a2)] [vr 0 0] C f_x_Mo_sheet_47_1 rfl ?_
            refine m_getr C e_x_Mo_sheet_48 fg_Mo_95 rfl (by decide) rfl ?_
            refine m_blk 53 [(0, vr 0 0), (1, vi a0), (2, vi a1), (3, vi a2)] [vi a1, vi a0, vr 12 0] C f_x_Mo_sheet_51_2 rfl ?_
            refine m_if_ge (tgt := 60) C e_x_Mo_sheet_53 (by decide) c14 (fun c27 => ?_) (fun c27 => ?_)
            · have h := ifp c27 h
              refine m_blk 61 [(0, vr 0 0), (1, vi a0), (2, vi a1), (3, vi a2)] [vi a2, vi a0, vr 12 0] C f_x_Mo_sheet_60_1 rfl ?_
              refine m_iast C e_x_Mo_sheet_61 rfl (by decide) (by decide) c26.1 c26.2 ?_
              refine m_blk 65 [(4, vi 0), (0, vr 0 0), (1, vi a0), (2, vi a1), (3, vi a2)] [] C f_x_Mo_sheet_62_2 rfl ?_
              refine m_loc [(0, vr 0 0), (1, vi a0), (4, vi 0)] ⟨rfl, rfl, rfl, trivial⟩ ?_
              exact hd_65 _ (mu (mu q10.2 11 0 a0.toNat a1) 12 0 a0.toNat a2) a0 0  h
            · have h := ifn c27 h
              refine m_blk 61 [(0, vr 0 0), (1, vi a0), (2, vi a1), (3, vi a2)] [vi 0, vi a0, vr 12 0] C f_x_Mo_sheet_56_2 rfl ?_
              refine m_iast C e_x_Mo_sheet_61 rfl (by decide) (by decide) c26.1 c26.2 ?_
              refine m_blk 65 [(4, vi 0), (0, vr 0 0), (1, vi a0), (2, vi a1), (3, vi a2)] [] C f_x_Mo_sheet_62_2 rfl ?_
              refine m_loc [(0, vr 0 0), (1, vi a0), (4, vi 0)] ⟨rfl, rfl, rfl, trivial⟩ ?_
              exact hd_65 _ (mu (mu q10.2 11 0 a0.toNat a1) 12 0 a0.toNat 0) a0 0  h
          · have h := ifn c25 h
            refine m_blk 34 [(0, vr 0 0), (1, vi a0), (2, vi a1), (3, vi a2)] [vi a2] C f_x_Mo_sheet_33_1 rfl ?_
            refine m_if_ge (tgt := 40) C e_x_Mo_sheet_34 (by decide) c23 (fun c28 => ?_) (fun c28 => ?_)
            · have h := ifp c28 h
              refine m_blk 41 [(0, vr 0 0), (1, vi a0), (2, vi a1), (3, vi a2)] [vr 0 0] C f_x_Mo_sheet_40_1 rfl ?_
              refine m_getr C e_x_Mo_sheet_41 fg_Mo_92 rfl (by decide) rfl ?_
              refine m_blk 46 [(0, vr 0 0), (1, vi a0), (2, vi a1), (3, vi a2)] [vi a1, vi a0, vr 11 0] C f_x_Mo_sheet_44_2 rfl ?_
              obtain ⟨c29, h⟩ := igd h
              refine m_iast C e_x_Mo_sheet_46 rfl (by decide) (by decide) c29.1 c29.2 ?_
              refine m_blk 48 [(0, vr 0 0), (1, vi a0), (2, vi a1), (3, vi a2)] [vr 0 0] C f_x_Mo_sheet_47_1 rfl ?_
              refine m_getr C e_x_Mo_sheet_48 fg_Mo_95 rfl (by decide) rfl ?_
              refine m_blk 53 [(0, vr 0 0), (1, vi a0), (2, vi a1), (3, vi a2)] [vi a1, vi a0, vr 12 0] C f_x_Mo_sheet_51_2 rfl ?_
              refine m_if_ge (tgt := 60) C e_x_Mo_sheet_53 (by decide) c14 (fun c30 => ?_) (fun c30 => ?_)
              · have h := ifp c30 h
                refine m_blk 61 [(0, vr 0 0), (1, vi a0), (2, vi a1), (3, vi a2)] [vi a2, vi a0, vr 12 0] C f_x_Mo_sheet_60_1 rfl ?_
                refine m_iast C e_x_Mo_sheet_61 rfl (by decide) (by decide) c29.1 c29.2 ?_
                refine m_blk 65 [(4, vi 0), (0, vr 0 0), (1, vi a0), (2, vi a1), (3, vi a2)] [] C f_x_Mo_sheet_62_2 rfl ?_
                refine m_loc [(0, vr 0 0), (1, vi a0), (4, vi 0)] ⟨rfl, rfl, rfl, trivial⟩ ?_
                exact hd_65 _ (mu (mu q10.2 11 0 a0.toNat a1) 12 0 a0.toNat a2) a0 0  h
              · have h := ifn c30 h
                refine m_blk 61 [(0, vr 0 0), (1, vi a0), (2, vi a1), (3, vi a2)] [vi 0, vi a0, vr 12 0] C f_x_Mo_sheet_56_2 rfl ?_
                refine m_iast C e_x_Mo_sheet_61 rfl (by decide) (by decide) c29.1 c29.2 ?_
                refine m_blk 65 [(4, vi 0), (0, vr 0 0), (1, vi a0), (2, vi a1), (3, vi a2)] [] C f_x_Mo_sheet_62_2 rfl ?_
                refine m_loc [(0, vr 0 0), (1, vi a0), (4, vi 0)] ⟨rfl, rfl, rfl, trivial⟩ ?_
                exact hd_65 _ (mu (mu q10.2 11 0 a0.toNat a1) 12 0 a0.toNat 0) a0 0  h
            · have h := ifn c28 h
              refine m_blk 39 [(0, vr 0 0), (1, vi a0), (2, vi a1), (3, vi a2)] [vi (-14)] C f_x_Mo_sheet_37_1 rfl ?_
              exact m_iret C Rm E e_x_Mo_sheet_39 (fin1 h)
        · have h := ifn c24 h
          refine m_blk 28 [(0, vr 0 0), (1, vi a0), (2, vi a1), (3, vi a2)] [vi (-2)] C f_x_Mo_sheet_26_1 rfl ?_
          exact m_iret C Rm E e_x_Mo_sheet_28 (fin1 h)

def f_Mo_cell (A : mA) (a0 : Int) (a1 : Int) (a2 : Int) : Option (Int × mA) := (Option.bind (f_Mo_isSheet A a0) (fun q1 => (if g32 q1.1 then (if q1.1 = 0 then (some ((-2), q1.2)) else (if (0 ≤ a0 ∧ a0 < ((4 : Nat) : Int)) then (if g32 (q1.2 11 0 a0.toNat) then (if 0 ≤ (q1.2 11 0 a0.toNat) then (Option.bind (f_Mo_in q1.2 a1 0 ((q1.2 12 0 a0.toNat) - 1)) (fun q8 => (if g32 q8.1 then (if q8.1 = 0 then (some ((-12), q8.2)) else (if g32 (q8.2 11 0 a0.toNat) then (if (q8.2 11 0 a0.toNat) = 0 then (if (0 ≤ a1 ∧ a1 < ((40 : Nat) : Int)) then (some (1, (mu q8.2 49 a0.toNat a1.toNat (iByt a2)))) else none) else (if (0 ≤ a1 ∧ a1 < ((40 : Nat) : Int)) then (some (1, (mu q8.2 49 a0.toNat a1.toNat a2))) else none)) else none)) else none))) else (some ((-11), q1.2))) else none) else none)) else none)))
theorem f_x_Mo_cell_0_1 : mblkB b_Mo_cell [(0, .iload_n 1, vi 0)] = true := by decide +kernel
theorem e_x_Mo_cell_1 : decode b_Mo_cell 1 = .ok (.invokestatic 422, 3) := by decide +kernel
theorem e_x_Mo_cell_4 : decode b_Mo_cell 4 = .ok (.ifCond .ne 6, 3) := by decide +kernel
theorem f_x_Mo_cell_10_1 : mblkB b_Mo_cell [(10, .aload_n 0, vi 0)] = true := by decide +kernel
theorem e_x_Mo_cell_11 : decode b_Mo_cell 11 = .ok (.getfield 92, 3) := by decide +kernel
theorem f_x_Mo_cell_14_1 : mblkB b_Mo_cell [(14, .iload_n 1, vi 0)] = true := by decide +kernel
theorem e_x_Mo_cell_15 : decode b_Mo_cell 15 = .ok (.iaload, 1) := by decide +kernel
theorem e_x_Mo_cell_16 : decode b_Mo_cell 16 = .ok (.ifCond .ge 6, 3) := by decide +kernel
theorem f_x_Mo_cell_22_3 : mblkB b_Mo_cell [(22, .iload_n 2, vi 0), (23, .iconst 0, vi 0), (24, .aload_n 0, vi 0)] = true := by decide +kernel
theorem e_x_Mo_cell_25 : decode b_Mo_cell 25 = .ok (.getfield 95, 3) := by decide +kernel
theorem f_x_Mo_cell_28_1 : mblkB b_Mo_cell [(28, .iload_n 1, vi 0)] = true := by decide +kernel
theorem e_x_Mo_cell_29 : decode b_Mo_cell 29 = .ok (.iaload, 1) := by decide +kernel
theorem f_x_Mo_cell_30_2 : mblkB b_Mo_cell [(30, .iconst 1, vi 1), (31, .isub, vi 0)] = true := by decide +kernel
theorem e_x_Mo_cell_32 : decode b_Mo_cell 32 = .ok (.invokestatic 108, 3) := by decide +kernel
theorem e_x_Mo_cell_35 : decode b_Mo_cell 35 = .ok (.ifCond .ne 6, 3) := by decide +kernel
theorem f_x_Mo_cell_41_1 : mblkB b_Mo_cell [(41, .aload_n 0, vi 0)] = true := by decide +kernel
theorem e_x_Mo_cell_42 : decode b_Mo_cell 42 = .ok (.getfield 98, 3) := by decide +kernel
theorem f_x_Mo_cell_45_1 : mblkB b_Mo_cell [(45, .iload_n 1, vi 0)] = true := by decide +kernel
theorem e_x_Mo_cell_46 : decode b_Mo_cell 46 = .ok (.aaload, 1) := by decide +kernel
theorem f_x_Mo_cell_47_2 : mblkB b_Mo_cell [(47, .iload_n 2, vi 0), (48, .aload_n 0, vi 0)] = true := by decide +kernel
theorem e_x_Mo_cell_49 : decode b_Mo_cell 49 = .ok (.getfield 92, 3) := by decide +kernel
theorem f_x_Mo_cell_52_1 : mblkB b_Mo_cell [(52, .iload_n 1, vi 0)] = true := by decide +kernel
theorem e_x_Mo_cell_53 : decode b_Mo_cell 53 = .ok (.iaload, 1) := by decide +kernel
theorem e_x_Mo_cell_54 : decode b_Mo_cell 54 = .ok (.ifCond .ne 8, 3) := by decide +kernel
theorem f_x_Mo_cell_62_1 : mblkB b_Mo_cell [(62, .iload_n 3, vi 0)] = true := by decide +kernel
theorem e_x_Mo_cell_63 : decode b_Mo_cell 63 = .ok (.iastore, 1) := by decide +kernel
theorem f_x_Mo_cell_64_1 : mblkB b_Mo_cell [(64, .iconst 1, vi 1)] = true := by decide +kernel
theorem e_x_Mo_cell_65 : decode b_Mo_cell 65 = .ok (.ireturn, 1) := by decide +kernel
theorem f_x_Mo_cell_57_3 : mblkB b_Mo_cell [(57, .iload_n 3, vi 0), (58, .i2b, vi 0), (59, .goto 4, vi 63)] = true := by decide +kernel
theorem f_x_Mo_cell_38_1 : mblkB b_Mo_cell [(38, .bipush (-12), vi (-12))] = true := by decide +kernel
theorem e_x_Mo_cell_40 : decode b_Mo_cell 40 = .ok (.ireturn, 1) := by decide +kernel
theorem f_x_Mo_cell_19_1 : mblkB b_Mo_cell [(19, .bipush (-11), vi (-11))] = true := by decide +kernel
theorem e_x_Mo_cell_21 : decode b_Mo_cell 21 = .ok (.ireturn, 1) := by decide +kernel
theorem f_x_Mo_cell_7_1 : mblkB b_Mo_cell [(7, .bipush (-2), vi (-2))] = true := by decide +kernel
theorem e_x_Mo_cell_9 : decode b_Mo_cell 9 = .ok (.ireturn, 1) := by decide +kernel
set_option maxHeartbeats 4000000 in
set_option maxRecDepth 20000 in
theorem x_Mo_cell  : ∀ (l : Launch) (D : va_G) (B : Nat) (H0 : Heap) (ad : mAd) (A : mA) (a0 : Int) (a1 : Int) (a2 : Int) (hS : mStr D ad) (r9 : Int) (A9 : mA), f_Mo_cell  A a0 a1 a2 = some (r9, A9) → mMet l D B H0 ad y_Mo_cell b_Mo_cell 4 (some .int) 2 42 [vr 0 0, vi a0, vi a1, vi a2] A (fun v A' => v = some (vi r9) ∧ A' = A9) := by
  intro l D B H0 ad A a0 a1 a2  hS r9 A9 h
  refine m_met (by decide) rfl (fun g w0 C Rm Y E => ?_)
  show JM g D ad w0 A 0 [(0, vr 0 0), (1, vi a0), (2, vi a1), (3, vi a2)] []
  unfold f_Mo_cell at h
  refine m_blk 1 [(0, vr 0 0), (1, vi a0), (2, vi a1), (3, vi a2)] [vi a0] C f_x_Mo_cell_0_1 rfl ?_
  obtain ⟨q1, e2, h⟩ := obd h
  refine m_callS C Rm Y [vi a0] [] (x_Mo_isSheet l D B H0 ad _ a0 hS _ _ e2) cl_Mo_422 e_x_Mo_cell_1 rfl rfl rfl ⟨by decide, by decide⟩ ?_
  rintro _ _ ⟨rfl, rfl⟩
  show JM g D ad w0 q1.2 4 [(0, vr 0 0), (1, vi a0), (2, vi a1), (3, vi a2)] [vi q1.1]
  obtain ⟨c3, h⟩ := igd h
  refine m_if_ne (tgt := 10) C e_x_Mo_cell_4 (by decide) c3 (fun c4 => ?_) (fun c4 => ?_)
  · have h := ifn c4 h
    refine m_blk 11 [(0, vr 0 0), (1, vi a0), (2, vi a1), (3, vi a2)] [vr 0 0] C f_x_Mo_cell_10_1 rfl ?_
    refine m_getr C e_x_Mo_cell_11 fg_Mo_92 rfl (by decide) rfl ?_
    refine m_blk 15 [(0, vr 0 0), (1, vi a0), (2, vi a1), (3, vi a2)] [vi a0, vr 11 0] C f_x_Mo_cell_14_1 rfl ?_
    obtain ⟨c5, h⟩ := igd h
    refine m_iald C e_x_Mo_cell_15 rfl (by decide) (by decide) c5.1 c5.2 (q1.2 11 0 a0.toNat) rfl ?_
    obtain ⟨c6, h⟩ := igd h
    refine m_if_ge (tgt := 22) C e_x_Mo_cell_16 (by decide) c6 (fun c7 => ?_) (fun c7 => ?_)
    · have h := ifp c7 h
      refine m_blk 25 [(0, vr 0 0), (1, vi a0), (2, vi a1), (3, vi a2)] [vr 0 0, vi 0, vi a1] C f_x_Mo_cell_22_3 rfl ?_
      refine m_getr C e_x_Mo_cell_25 fg_Mo_95 rfl (by decide) rfl ?_
      refine m_blk 29 [(0, vr 0 0), (1, vi a0), (2, vi a1), (3, vi a2)] [vi a0, vr 12 0, vi 0, vi a1] C f_x_Mo_cell_28_1 rfl ?_
      refine m_iald C e_x_Mo_cell_29 rfl (by decide) (by decide) c5.1 c5.2 (q1.2 12 0 a0.toNat) rfl ?_
      refine m_blk 32 [(0, vr 0 0), (1, vi a0), (2, vi a1), (3, vi a2)] [vi ((q1.2 12 0 a0.toNat) - 1), vi 0, vi a1] C f_x_Mo_cell_30_2 rfl ?_
      obtain ⟨q8, e9, h⟩ := obd h
      refine m_callS C Rm Y [vi a1, vi 0, vi ((q1.2 12 0 a0.toNat) - 1)] [] (x_Mo_in l D B H0 ad _ a1 0 ((q1.2 12 0 a0.toNat) - 1) hS _ _ e9) cl_Mo_108 e_x_Mo_cell_32 rfl rfl rfl ⟨by decide, by decide⟩ ?_
      rintro _ _ ⟨rfl, rfl⟩
      show JM g D ad w0 q8.2 35 [(0, vr 0 0), (1, vi a0), (2, vi a1), (3, vi a2)] [vi q8.1]
      obtain ⟨c10, h⟩ := igd h
      refine m_if_ne (tgt := 41) C e_x_Mo_cell_35 (by decide) c10 (fun c11 => ?_) (fun c11 => ?_)
      · have h := ifn c11 h
        refine m_blk 42 [(0, vr 0 0), (1, vi a0), (2, vi a1), (3, vi a2)] [vr 0 0] C f_x_Mo_cell_41_1 rfl ?_
        refine m_getr C e_x_Mo_cell_42 fg_Mo_98 rfl (by decide) rfl ?_
        refine m_blk 46 [(0, vr 0 0), (1, vi a0), (2, vi a1), (3, vi a2)] [vi a0, vr 29 0] C f_x_Mo_cell_45_1 rfl ?_
        have k12 : a0.toNat < 4 := by omega
        refine m_aald C a0.toNat e_x_Mo_cell_46 rfl rfl rfl (by decide) (by decide) c5.1 c5.2 (mz _ _) ?_
        refine m_blk 49 [(0, vr 0 0), (1, vi a0), (2, vi a1), (3, vi a2)] [vr 0 0, vi a1, vr 49 a0.toNat] C f_x_Mo_cell_47_2 rfl ?_
        refine m_getr C e_x_Mo_cell_49 fg_Mo_92 rfl (by decide) rfl ?_
        refine m_blk 53 [(0, vr 0 0), (1, vi a0), (2, vi a1), (3, vi a2)] [vi a0, vr 11 0, vi a1, vr 49 a0.toNat] C f_x_Mo_cell_52_1 rfl ?_
        refine m_iald C e_x_Mo_cell_53 rfl (by decide) (by decide) c5.1 c5.2 (q8.2 11 0 a0.toNat) rfl ?_
        obtain ⟨c13, h⟩ := igd h
        refine m_if_ne (tgt := 62) C e_x_Mo_cell_54 (by decide) c13 (fun c14 => ?_) (fun c14 => ?_)
        · have h := ifn c14 h
          refine m_blk 63 [(0, vr 0 0), (1, vi a0), (2, vi a1), (3, vi a2)] [vi a2, vi a1, vr 49 a0.toNat] C f_x_Mo_cell_62_1 rfl ?_
          obtain ⟨c15, h⟩ := igd h
          refine m_iast C e_x_Mo_cell_63 rfl (k12) (by decide) c15.1 c15.2 ?_
          refine m_blk 65 [(0, vr 0 0), (1, vi a0), (2, vi a1), (3, vi a2)] [vi 1] C f_x_Mo_cell_64_1 rfl ?_
          exact m_iret C Rm E e_x_Mo_cell_65 (fin1 h)
        · have h := ifp c14 h
          refine m_blk 63 [(0, vr 0 0), (1, vi a0), (2, vi a1), (3, vi a2)] [vi (iByt a2), vi a1, vr 49 a0.toNat] C f_x_Mo_cell_57_3 rfl ?_
          obtain ⟨c16, h⟩ := igd h
          refine m_iast C e_x_Mo_cell_63 rfl (k12) (by decide) c16.1 c16.2 ?_
          refine m_blk 65 [(0, vr 0 0), (1, vi a0), (2, vi a1), (3, vi a2)] [vi 1] C f_x_Mo_cell_64_1 rfl ?_
          exact m_iret C Rm E e_x_Mo_cell_65 (fin1 h)
      · have h := ifp c11 h
        refine m_blk 40 [(0, vr 0 0), (1, vi a0), (2, vi a1), (3, vi a2)] [vi (-12)] C f_x_Mo_cell_38_1 rfl ?_
        exact m_iret C Rm E e_x_Mo_cell_40 (fin1 h)
    · have h := ifn c7 h
      refine m_blk 21 [(0, vr 0 0), (1, vi a0), (2, vi a1), (3, vi a2)] [vi (-11)] C f_x_Mo_cell_19_1 rfl ?_
      exact m_iret C Rm E e_x_Mo_cell_21 (fin1 h)
  · have h := ifp c4 h
    refine m_blk 9 [(0, vr 0 0), (1, vi a0), (2, vi a1), (3, vi a2)] [vi (-2)] C f_x_Mo_cell_7_1 rfl ?_
    exact m_iret C Rm E e_x_Mo_cell_9 (fin1 h)

