/-! FUNCTIONS OF METHODS: the reference (own work, by program) -/
/-- functions of methods: guards (own work) -/
abbrev g32 (x : Int) : Prop := -2147483648 ≤ x ∧ x ≤ 2147483647
theorem igd {α : Type} {c : Prop} [Decidable c] {t : Option α} {x : α} (h : (if c then t else none) = some x) : c ∧ t = some x := by
  by_cases k : c
  · rw [if_pos k] at h; exact ⟨k, h⟩
  · rw [if_neg k] at h; cases h
theorem ifp {α : Type} {c : Prop} [Decidable c] {a b x : α} (k : c) (h : (if c then a else b) = x) : a = x := by rw [if_pos k] at h; exact h
theorem ifn {α : Type} {c : Prop} [Decidable c] {a b x : α} (k : ¬ c) (h : (if c then a else b) = x) : b = x := by rw [if_neg k] at h; exact h
theorem obd {α β : Type} {o : Option α} {f : α → Option β} {x : β} (h : o.bind f = some x) : ∃ q, o = some q ∧ f q = some x := by
  cases o with
  | none => cases h
  | some q => exact ⟨q, rfl, h⟩
theorem fin1 {x r : Int} {m A : mA} (h : some (x, m) = some (r, A)) : some (vi x) = some (vi r) ∧ m = A := by cases h; exact ⟨rfl, rfl⟩
theorem finL {x r : Int} {m A : mA} (h : some (x, m) = some (r, A)) : some (vl x) = some (vl r) ∧ m = A := by cases h; exact ⟨rfl, rfl⟩
theorem fin0 {x r : Int} {m A : mA} (h : some (x, m) = some (r, A)) : (none : Option mV) = none ∧ m = A := by cases h; exact ⟨rfl, rfl⟩
def f_JI_ntz (A : mA) (a0 : Int) : Option (Int × mA) := (if 0 < (iAnd (iXor a0 (-1)) (a0 - 1)) then (if (iAnd (iXor a0 (-1)) (a0 - 1)) ≤ 65536 then (if (iAnd (iXor a0 (-1)) (a0 - 1)) ≤ 256 then (if (iAnd (iXor a0 (-1)) (a0 - 1)) ≤ 16 then (if (iAnd (iXor a0 (-1)) (a0 - 1)) ≤ 4 then (some ((1 + (iUsh (iAnd (iXor a0 (-1)) (a0 - 1)) 1)), A)) else (some ((3 + (iUsh (iUsh (iAnd (iXor a0 (-1)) (a0 - 1)) 2) 1)), A))) else (if (iUsh (iAnd (iXor a0 (-1)) (a0 - 1)) 4) ≤ 4 then (some ((5 + (iUsh (iUsh (iAnd (iXor a0 (-1)) (a0 - 1)) 4) 1)), A)) else (some ((7 + (iUsh (iUsh (iUsh (iAnd (iXor a0 (-1)) (a0 - 1)) 4) 2) 1)), A)))) else (if (iUsh (iAnd (iXor a0 (-1)) (a0 - 1)) 8) ≤ 16 then (if (iUsh (iAnd (iXor a0 (-1)) (a0 - 1)) 8) ≤ 4 then (some ((9 + (iUsh (iUsh (iAnd (iXor a0 (-1)) (a0 - 1)) 8) 1)), A)) else (some ((11 + (iUsh (iUsh (iUsh (iAnd (iXor a0 (-1)) (a0 - 1)) 8) 2) 1)), A))) else (if (iUsh (iUsh (iAnd (iXor a0 (-1)) (a0 - 1)) 8) 4) ≤ 4 then (some ((13 + (iUsh (iUsh (iUsh (iAnd (iXor a0 (-1)) (a0 - 1)) 8) 4) 1)), A)) else (some ((15 + (iUsh (iUsh (iUsh (iUsh (iAnd (iXor a0 (-1)) (a0 - 1)) 8) 4) 2) 1)), A))))) else (if (iUsh (iAnd (iXor a0 (-1)) (a0 - 1)) 16) ≤ 256 then (if (iUsh (iAnd (iXor a0 (-1)) (a0 - 1)) 16) ≤ 16 then (if (iUsh (iAnd (iXor a0 (-1)) (a0 - 1)) 16) ≤ 4 then (some ((17 + (iUsh (iUsh (iAnd (iXor a0 (-1)) (a0 - 1)) 16) 1)), A)) else (some ((19 + (iUsh (iUsh (iUsh (iAnd (iXor a0 (-1)) (a0 - 1)) 16) 2) 1)), A))) else (if (iUsh (iUsh (iAnd (iXor a0 (-1)) (a0 - 1)) 16) 4) ≤ 4 then (some ((21 + (iUsh (iUsh (iUsh (iAnd (iXor a0 (-1)) (a0 - 1)) 16) 4) 1)), A)) else (some ((23 + (iUsh (iUsh (iUsh (iUsh (iAnd (iXor a0 (-1)) (a0 - 1)) 16) 4) 2) 1)), A)))) else (if (iUsh (iUsh (iAnd (iXor a0 (-1)) (a0 - 1)) 16) 8) ≤ 16 then (if (iUsh (iUsh (iAnd (iXor a0 (-1)) (a0 - 1)) 16) 8) ≤ 4 then (some ((25 + (iUsh (iUsh (iUsh (iAnd (iXor a0 (-1)) (a0 - 1)) 16) 8) 1)), A)) else (some ((27 + (iUsh (iUsh (iUsh (iUsh (iAnd (iXor a0 (-1)) (a0 - 1)) 16) 8) 2) 1)), A))) else (if (iUsh (iUsh (iUsh (iAnd (iXor a0 (-1)) (a0 - 1)) 16) 8) 4) ≤ 4 then (some ((29 + (iUsh (iUsh (iUsh (iUsh (iAnd (iXor a0 (-1)) (a0 - 1)) 16) 8) 4) 1)), A)) else (some ((31 + (iUsh (iUsh (iUsh (iUsh (iUsh (iAnd (iXor a0 (-1)) (a0 - 1)) 16) 8) 4) 2) 1)), A)))))) else (some ((iAnd (iAnd (iXor a0 (-1)) (a0 - 1)) 32), A)))
theorem f_x_JI_ntz_0_9 : mblkB b_JI_numberOfTrailingZeros [(0, .iload_n 0, vi 0), (1, .iconst (-1), vi (-1)), (2, .ixor, vi 0), (3, .iload_n 0, vi 0), (4, .iconst 1, vi 1), (5, .isub, vi 0), (6, .iand, vi 0), (7, .istore_n 0, vi 0), (8, .iload_n 0, vi 0)] = true := by decide +kernel
theorem e_x_JI_ntz_9 : decode b_JI_numberOfTrailingZeros 9 = .ok (.ifCond .gt 8, 3) := by decide +kernel
theorem f_x_JI_ntz_17_3 : mblkB b_JI_numberOfTrailingZeros [(17, .iconst 1, vi 1), (18, .istore_n 1, vi 0), (19, .iload_n 0, vi 0)] = true := by decide +kernel
theorem e_x_JI_ntz_20 : decode b_JI_numberOfTrailingZeros 20 = .ok (.ldc_w 264, 3) := by decide +kernel
theorem e_x_JI_ntz_23 : decode b_JI_numberOfTrailingZeros 23 = .ok (.if_icmp .le 11, 3) := by decide +kernel
theorem f_x_JI_ntz_34_2 : mblkB b_JI_numberOfTrailingZeros [(34, .iload_n 0, vi 0), (35, .sipush 256, vi 256)] = true := by decide +kernel
theorem e_x_JI_ntz_38 : decode b_JI_numberOfTrailingZeros 38 = .ok (.if_icmp .le 11, 3) := by decide +kernel
theorem f_x_JI_ntz_49_2 : mblkB b_JI_numberOfTrailingZeros [(49, .iload_n 0, vi 0), (50, .bipush 16, vi 16)] = true := by decide +kernel
theorem e_x_JI_ntz_52 : decode b_JI_numberOfTrailingZeros 52 = .ok (.if_icmp .le 10, 3) := by decide +kernel
theorem f_x_JI_ntz_62_2 : mblkB b_JI_numberOfTrailingZeros [(62, .iload_n 0, vi 0), (63, .iconst 4, vi 4)] = true := by decide +kernel
theorem e_x_JI_ntz_64 : decode b_JI_numberOfTrailingZeros 64 = .ok (.if_icmp .le 10, 3) := by decide +kernel
theorem f_x_JI_ntz_74_5 : mblkB b_JI_numberOfTrailingZeros [(74, .iload_n 1, vi 0), (75, .iload_n 0, vi 0), (76, .iconst 1, vi 1), (77, .iushr, vi 0), (78, .iadd, vi 0)] = true := by decide +kernel
theorem e_x_JI_ntz_79 : decode b_JI_numberOfTrailingZeros 79 = .ok (.ireturn, 1) := by decide +kernel
theorem f_x_JI_ntz_67_10 : mblkB b_JI_numberOfTrailingZeros [(67, .iinc 1 2, vi 2), (70, .iload_n 0, vi 0), (71, .iconst 2, vi 2), (72, .iushr, vi 0), (73, .istore_n 0, vi 0), (74, .iload_n 1, vi 0), (75, .iload_n 0, vi 0), (76, .iconst 1, vi 1), (77, .iushr, vi 0), (78, .iadd, vi 0)] = true := by decide +kernel
theorem f_x_JI_ntz_55_7 : mblkB b_JI_numberOfTrailingZeros [(55, .iinc 1 4, vi 4), (58, .iload_n 0, vi 0), (59, .iconst 4, vi 4), (60, .iushr, vi 0), (61, .istore_n 0, vi 0), (62, .iload_n 0, vi 0), (63, .iconst 4, vi 4)] = true := by decide +kernel
theorem f_x_JI_ntz_41_7 : mblkB b_JI_numberOfTrailingZeros [(41, .iinc 1 8, vi 8), (44, .iload_n 0, vi 0), (45, .bipush 8, vi 8), (47, .iushr, vi 0), (48, .istore_n 0, vi 0), (49, .iload_n 0, vi 0), (50, .bipush 16, vi 16)] = true := by decide +kernel
theorem f_x_JI_ntz_26_7 : mblkB b_JI_numberOfTrailingZeros [(26, .iinc 1 16, vi 16), (29, .iload_n 0, vi 0), (30, .bipush 16, vi 16), (32, .iushr, vi 0), (33, .istore_n 0, vi 0), (34, .iload_n 0, vi 0), (35, .sipush 256, vi 256)] = true := by decide +kernel
theorem f_x_JI_ntz_12_3 : mblkB b_JI_numberOfTrailingZeros [(12, .iload_n 0, vi 0), (13, .bipush 32, vi 32), (15, .iand, vi 0)] = true := by decide +kernel
theorem e_x_JI_ntz_16 : decode b_JI_numberOfTrailingZeros 16 = .ok (.ireturn, 1) := by decide +kernel
set_option maxHeartbeats 4000000 in
set_option maxRecDepth 20000 in
theorem x_JI_ntz  : ∀ (l : Launch) (D : va_G) (B : Nat) (H0 : Heap) (ad : mAd) (A : mA) (a0 : Int) (hS : mStr D ad) (r9 : Int) (A9 : mA), f_JI_ntz  A a0 = some (r9, A9) → mMet l D B H0 ad y_JI_numberOfTrailingZeros b_JI_numberOfTrailingZeros 2 (some .int) 0 0 [vi a0] A (fun v A' => v = some (vi r9) ∧ A' = A9) := by
  intro l D B H0 ad A a0  hS r9 A9 h
  refine m_met (by decide) rfl (fun g w0 C Rm Y E => ?_)
  show JM g D ad w0 A 0 [(0, vi a0)] []
  unfold f_JI_ntz at h
  refine m_blk 9 [(0, vi (iAnd (iXor a0 (-1)) (a0 - 1)))] [vi (iAnd (iXor a0 (-1)) (a0 - 1))] C f_x_JI_ntz_0_9 rfl ?_
  refine m_if_gt (tgt := 17) C e_x_JI_ntz_9 (by decide) (iAnd_r _ _) (fun c1 => ?_) (fun c1 => ?_)
  · have h := ifp c1 h
    refine m_blk 20 [(1, vi 1), (0, vi (iAnd (iXor a0 (-1)) (a0 - 1)))] [vi (iAnd (iXor a0 (-1)) (a0 - 1))] C f_x_JI_ntz_17_3 rfl ?_
    refine m_ldcw C 65536 e_x_JI_ntz_20 ld_JI_264 (by decide) ?_
    refine m_icmp_le (tgt := 34) C e_x_JI_ntz_23 (by decide) (iAnd_r _ _) (by decide) (fun c2 => ?_) (fun c2 => ?_)
    · have h := ifp c2 h
      refine m_blk 38 [(1, vi 1), (0, vi (iAnd (iXor a0 (-1)) (a0 - 1)))] [vi 256, vi (iAnd (iXor a0 (-1)) (a0 - 1))] C f_x_JI_ntz_34_2 rfl ?_
      refine m_icmp_le (tgt := 49) C e_x_JI_ntz_38 (by decide) (iAnd_r _ _) (by decide) (fun c3 => ?_) (fun c3 => ?_)
      · have h := ifp c3 h
        refine m_blk 52 [(1, vi 1), (0, vi (iAnd (iXor a0 (-1)) (a0 - 1)))] [vi 16, vi (iAnd (iXor a0 (-1)) (a0 - 1))] C f_x_JI_ntz_49_2 rfl ?_
        refine m_icmp_le (tgt := 62) C e_x_JI_ntz_52 (by decide) (iAnd_r _ _) (by decide) (fun c4 => ?_) (fun c4 => ?_)
        · have h := ifp c4 h
          refine m_blk 64 [(1, vi 1), (0, vi (iAnd (iXor a0 (-1)) (a0 - 1)))] [vi 4, vi (iAnd (iXor a0 (-1)) (a0 - 1))] C f_x_JI_ntz_62_2 rfl ?_
          refine m_icmp_le (tgt := 74) C e_x_JI_ntz_64 (by decide) (iAnd_r _ _) (by decide) (fun c5 => ?_) (fun c5 => ?_)
          · have h := ifp c5 h
            refine m_blk 79 [(1, vi 1), (0, vi (iAnd (iXor a0 (-1)) (a0 - 1)))] [vi (1 + (iUsh (iAnd (iXor a0 (-1)) (a0 - 1)) 1))] C f_x_JI_ntz_74_5 rfl ?_
            exact m_iret C Rm E e_x_JI_ntz_79 (fin1 h)
          · have h := ifn c5 h
            refine m_blk 79 [(0, vi (iUsh (iAnd (iXor a0 (-1)) (a0 - 1)) 2)), (1, vi 3)] [vi (3 + (iUsh (iUsh (iAnd (iXor a0 (-1)) (a0 - 1)) 2) 1))] C f_x_JI_ntz_67_10 rfl ?_
            exact m_iret C Rm E e_x_JI_ntz_79 (fin1 h)
        · have h := ifn c4 h
          refine m_blk 64 [(0, vi (iUsh (iAnd (iXor a0 (-1)) (a0 - 1)) 4)), (1, vi 5)] [vi 4, vi (iUsh (iAnd (iXor a0 (-1)) (a0 - 1)) 4)] C f_x_JI_ntz_55_7 rfl ?_
          refine m_icmp_le (tgt := 74) C e_x_JI_ntz_64 (by decide) (iUsh_r _ _) (by decide) (fun c6 => ?_) (fun c6 => ?_)
          · have h := ifp c6 h
            refine m_blk 79 [(0, vi (iUsh (iAnd (iXor a0 (-1)) (a0 - 1)) 4)), (1, vi 5)] [vi (5 + (iUsh (iUsh (iAnd (iXor a0 (-1)) (a0 - 1)) 4) 1))] C f_x_JI_ntz_74_5 rfl ?_
            exact m_iret C Rm E e_x_JI_ntz_79 (fin1 h)
          · have h := ifn c6 h
            refine m_blk 79 [(0, vi (iUsh (iUsh (iAnd (iXor a0 (-1)) (a0 - 1)) 4) 2)), (1, vi 7)] [vi (7 + (iUsh (iUsh (iUsh (iAnd (iXor a0 (-1)) (a0 - 1)) 4) 2) 1))] C f_x_JI_ntz_67_10 rfl ?_
            exact m_iret C Rm E e_x_JI_ntz_79 (fin1 h)
      · have h := ifn c3 h
        refine m_blk 52 [(0, vi (iUsh (iAnd (iXor a0 (-1)) (a0 - 1)) 8)), (1, vi 9)] [vi 16, vi (iUsh (iAnd (iXor a0 (-1)) (a0 - 1)) 8)] C f_x_JI_ntz_41_7 rfl ?_
        refine m_icmp_le (tgt := 62) C e_x_JI_ntz_52 (by decide) (iUsh_r _ _) (by decide) (fun c7 => ?_) (fun c7 => ?_)
        · have h := ifp c7 h
          refine m_blk 64 [(0, vi (iUsh (iAnd (iXor a0 (-1)) (a0 - 1)) 8)), (1, vi 9)] [vi 4, vi (iUsh (iAnd (iXor a0 (-1)) (a0 - 1)) 8)] C f_x_JI_ntz_62_2 rfl ?_
          refine m_icmp_le (tgt := 74) C e_x_JI_ntz_64 (by decide) (iUsh_r _ _) (by decide) (fun c8 => ?_) (fun c8 => ?_)
          · have h := ifp c8 h
            refine m_blk 79 [(0, vi (iUsh (iAnd (iXor a0 (-1)) (a0 - 1)) 8)), (1, vi 9)] [vi (9 + (iUsh (iUsh (iAnd (iXor a0 (-1)) (a0 - 1)) 8) 1))] C f_x_JI_ntz_74_5 rfl ?_
            exact m_iret C Rm E e_x_JI_ntz_79 (fin1 h)
          · have h := ifn c8 h
            refine m_blk 79 [(0, vi (iUsh (iUsh (iAnd (iXor a0 (-1)) (a0 - 1)) 8) 2)), (1, vi 11)] [vi (11 + (iUsh (iUsh (iUsh (iAnd (iXor a0 (-1)) (a0 - 1)) 8) 2) 1))] C f_x_JI_ntz_67_10 rfl ?_
            exact m_iret C Rm E e_x_JI_ntz_79 (fin1 h)
        · have h := ifn c7 h
          refine m_blk 64 [(0, vi (iUsh (iUsh (iAnd (iXor a0 (-1)) (a0 - 1)) 8) 4)), (1, vi 13)] [vi 4, vi (iUsh (iUsh (iAnd (iXor a0 (-1)) (a0 - 1)) 8) 4)] C f_x_JI_ntz_55_7 rfl ?_
          refine m_icmp_le (tgt := 74) C e_x_JI_ntz_64 (by decide) (iUsh_r _ _) (by decide) (fun c9 => ?_) (fun c9 => ?_)
          · have h := ifp c9 h
            refine m_blk 79 [(0, vi (iUsh (iUsh (iAnd (iXor a0 (-1)) (a0 - 1)) 8) 4)), (1, vi 13)] [vi (13 + (iUsh (iUsh (iUsh (iAnd (iXor a0 (-1)) (a0 - 1)) 8) 4) 1))] C f_x_JI_ntz_74_5 rfl ?_
            exact m_iret C Rm E e_x_JI_ntz_79 (fin1 h)
          · have h := ifn c9 h
            refine m_blk 79 [(0, vi (iUsh (iUsh (iUsh (iAnd (iXor a0 (-1)) (a0 - 1)) 8) 4) 2)), (1, vi 15)] [vi (15 + (iUsh (iUsh (iUsh (iUsh (iAnd (iXor a0 (-1)) (a0 - 1)) 8) 4) 2) 1))] C f_x_JI_ntz_67_10 rfl ?_
            exact m_iret C Rm E e_x_JI_ntz_79 (fin1 h)
    · have h := ifn c2 h
      refine m_blk 38 [(0, vi (iUsh (iAnd (iXor a0 (-1)) (a0 - 1)) 16)), (1, vi 17)] [vi 256, vi (iUsh (iAnd (iXor a0 (-1)) (a0 - 1)) 16)] C f_x_JI_ntz_26_7 rfl ?_
      refine m_icmp_le (tgt := 49) C e_x_JI_ntz_38 (by decide) (iUsh_r _ _) (by decide) (fun c10 => ?_) (fun c10 => ?_)
      · have h := ifp c10 h
        refine m_blk 52 [(0, vi (iUsh (iAnd (iXor a0 (-1)) (a0 - 1)) 16)), (1, vi 17)] [vi 16, vi (iUsh (iAnd (iXor a0 (-1)) (a0 - 1)) 16)] C f_x_JI_ntz_49_2 rfl ?_
        refine m_icmp_le (tgt := 62) C e_x_JI_ntz_52 (by decide) (iUsh_r _ _) (by decide) (fun c11 => ?_) (fun c11 => ?_)
        · have h := ifp c11 h
          refine m_blk 64 [(0, vi (iUsh (iAnd (iXor a0 (-1)) (a0 - 1)) 16)), (1, vi 17)] [vi 4, vi (iUsh (iAnd (iXor a0 (-1)) (a0 - 1)) 16)] C f_x_JI_ntz_62_2 rfl ?_
          refine m_icmp_le (tgt := 74) C e_x_JI_ntz_64 (by decide) (iUsh_r _ _) (by decide) (fun c12 => ?_) (fun c12 => ?_)
          · have h := ifp c12 h
            refine m_blk 79 [(0, vi (iUsh (iAnd (iXor a0 (-1)) (a0 - 1)) 16)), (1, vi 17)] [vi (17 + (iUsh (iUsh (iAnd (iXor a0 (-1)) (a0 - 1)) 16) 1))] C f_x_JI_ntz_74_5 rfl ?_
            exact m_iret C Rm E e_x_JI_ntz_79 (fin1 h)
          · have h := ifn c12 h
            refine m_blk 79 [(0, vi (iUsh (iUsh (iAnd (iXor a0 (-1)) (a0 - 1)) 16) 2)), (1, vi 19)] [vi (19 + (iUsh (iUsh (iUsh (iAnd (iXor a0 (-1)) (a0 - 1)) 16) 2) 1))] C f_x_JI_ntz_67_10 rfl ?_
            exact m_iret C Rm E e_x_JI_ntz_79 (fin1 h)
        · have h := ifn c11 h
          refine m_blk 64 [(0, vi (iUsh (iUsh (iAnd (iXor a0 (-1)) (a0 - 1)) 16) 4)), (1, vi 21)] [vi 4, vi (iUsh (iUsh (iAnd (iXor a0 (-1)) (a0 - 1)) 16) 4)] C f_x_JI_ntz_55_7 rfl ?_
          refine m_icmp_le (tgt := 74) C e_x_JI_ntz_64 (by decide) (iUsh_r _ _) (by decide) (fun c13 => ?_) (fun c13 => ?_)
          · have h := ifp c13 h
            refine m_blk 79 [(0, vi (iUsh (iUsh (iAnd (iXor a0 (-1)) (a0 - 1)) 16) 4)), (1, vi 21)] [vi (21 + (iUsh (iUsh (iUsh (iAnd (iXor a0 (-1)) (a0 - 1)) 16) 4) 1))] C f_x_JI_ntz_74_5 rfl ?_
            exact m_iret C Rm E e_x_JI_ntz_79 (fin1 h)
          · have h := ifn c13 h
            refine m_blk 79 [(0, vi (iUsh (iUsh (iUsh (iAnd (iXor a0 (-1)) (a0 - 1)) 16) 4) 2)), (1, vi 23)] [vi (23 + (iUsh (iUsh (iUsh (iUsh (iAnd (iXor a0 (-1)) (a0 - 1)) 16) 4) 2) 1))] C f_x_JI_ntz_67_10 rfl ?_
            exact m_iret C Rm E e_x_JI_ntz_79 (fin1 h)
      · have h := ifn c10 h
        refine m_blk 52 [(0, vi (iUsh (iUsh (iAnd (iXor a0 (-1)) (a0 - 1)) 16) 8)), (1, vi 25)] [vi 16, vi (iUsh (iUsh (iAnd (iXor a0 (-1)) (a0 - 1)) 16) 8)] C f_x_JI_ntz_41_7 rfl ?_
        refine m_icmp_le (tgt := 62) C e_x_JI_ntz_52 (by decide) (iUsh_r _ _) (by decide) (fun c14 => ?_) (fun c14 => ?_)
        · have h := ifp c14 h
          refine m_blk 64 [(0, vi (iUsh (iUsh (iAnd (iXor a0 (-1)) (a0 - 1)) 16) 8)), (1, vi 25)] [vi 4, vi (iUsh (iUsh (iAnd (iXor a0 (-1)) (a0 - 1)) 16) 8)] C f_x_JI_ntz_62_2 rfl ?_
          refine m_icmp_le (tgt := 74) C e_x_JI_ntz_64 (by decide) (iUsh_r _ _) (by decide) (fun c15 => ?_) (fun c15 => ?_)
          · have h := ifp c15 h
            refine m_blk 79 [(0, vi (iUsh (iUsh (iAnd (iXor a0 (-1)) (a0 - 1)) 16) 8)), (1, vi 25)] [vi (25 + (iUsh (iUsh (iUsh (iAnd (iXor a0 (-1)) (a0 - 1)) 16) 8) 1))] C f_x_JI_ntz_74_5 rfl ?_
            exact m_iret C Rm E e_x_JI_ntz_79 (fin1 h)
          · have h := ifn c15 h
            refine m_blk 79 [(0, vi (iUsh (iUsh (iUsh (iAnd (iXor a0 (-1)) (a0 - 1)) 16) 8) 2)), (1, vi 27)] [vi (27 + (iUsh (iUsh (iUsh (iUsh (iAnd (iXor a0 (-1)) (a0 - 1)) 16) 8) 2) 1))] C f_x_JI_ntz_67_10 rfl ?_
            exact m_iret C Rm E e_x_JI_ntz_79 (fin1 h)
        · have h := ifn c14 h
          refine m_blk 64 [(0, vi (iUsh (iUsh (iUsh (iAnd (iXor a0 (-1)) (a0 - 1)) 16) 8) 4)), (1, vi 29)] [vi 4, vi (iUsh (iUsh (iUsh (iAnd (iXor a0 (-1)) (a0 - 1)) 16) 8) 4)] C f_x_JI_ntz_55_7 rfl ?_
          refine m_icmp_le (tgt := 74) C e_x_JI_ntz_64 (by decide) (iUsh_r _ _) (by decide) (fun c16 => ?_) (fun c16 => ?_)
          · have h := ifp c16 h
            refine m_blk 79 [(0, vi (iUsh (iUsh (iUsh (iAnd (iXor a0 (-1)) (a0 - 1)) 16) 8) 4)), (1, vi 29)] [vi (29 + (iUsh (iUsh (iUsh (iUsh (iAnd (iXor a0 (-1)) (a0 - 1)) 16) 8) 4) 1))] C f_x_JI_ntz_74_5 rfl ?_
            exact m_iret C Rm E e_x_JI_ntz_79 (fin1 h)
          · have h := ifn c16 h
            refine m_blk 79 [(0, vi (iUsh (iUsh (iUsh (iUsh (iAnd (iXor a0 (-1)) (a0 - 1)) 16) 8) 4) 2)), (1, vi 31)] [vi (31 + (iUsh (iUsh (iUsh (iUsh (iUsh (iAnd (iXor a0 (-1)) (a0 - 1)) 16) 8) 4) 2) 1))] C f_x_JI_ntz_67_10 rfl ?_
            exact m_iret C Rm E e_x_JI_ntz_79 (fin1 h)
  · have h := ifn c1 h
    refine m_blk 16 [(0, vi (iAnd (iXor a0 (-1)) (a0 - 1)))] [vi (iAnd (iAnd (iXor a0 (-1)) (a0 - 1)) 32)] C f_x_JI_ntz_12_3 rfl ?_
    exact m_iret C Rm E e_x_JI_ntz_16 (fin1 h)

def f_Mo_in (A : mA) (a0 : Int) (a1 : Int) (a2 : Int) : Option (Int × mA) := (if g32 a0 then if g32 a1 then (if a0 < a1 then (some (0, A)) else (if g32 a2 then (if a2 < a0 then (some (0, A)) else (some (1, A))) else none)) else none else none)
theorem f_x_Mo_in_0_2 : mblkB b_Mo_in [(0, .iload_n 0, vi 0), (1, .iload_n 1, vi 0)] = true := by decide +kernel
theorem e_x_Mo_in_2 : decode b_Mo_in 2 = .ok (.if_icmp .lt 12, 3) := by decide +kernel
theorem f_x_Mo_in_14_1 : mblkB b_Mo_in [(14, .iconst 0, vi 0)] = true := by decide +kernel
theorem e_x_Mo_in_15 : decode b_Mo_in 15 = .ok (.ireturn, 1) := by decide +kernel
theorem f_x_Mo_in_5_2 : mblkB b_Mo_in [(5, .iload_n 0, vi 0), (6, .iload_n 2, vi 0)] = true := by decide +kernel
theorem e_x_Mo_in_7 : decode b_Mo_in 7 = .ok (.if_icmp .gt 7, 3) := by decide +kernel
theorem f_x_Mo_in_10_2 : mblkB b_Mo_in [(10, .iconst 1, vi 1), (11, .goto 4, vi 15)] = true := by decide +kernel
set_option maxHeartbeats 4000000 in
set_option maxRecDepth 20000 in
theorem x_Mo_in  : ∀ (l : Launch) (D : va_G) (B : Nat) (H0 : Heap) (ad : mAd) (A : mA) (a0 : Int) (a1 : Int) (a2 : Int) (hS : mStr D ad) (r9 : Int) (A9 : mA), f_Mo_in  A a0 a1 a2 = some (r9, A9) → mMet l D B H0 ad y_Mo_in b_Mo_in 3 (some .boolean) 0 0 [vi a0, vi a1, vi a2] A (fun v A' => v = some (vi r9) ∧ A' = A9) := by
  intro l D B H0 ad A a0 a1 a2  hS r9 A9 h
  refine m_met (by decide) rfl (fun g w0 C Rm Y E => ?_)
  show JM g D ad w0 A 0 [(0, vi a0), (1, vi a1), (2, vi a2)] []
  unfold f_Mo_in at h
  refine m_blk 2 [(0, vi a0), (1, vi a1), (2, vi a2)] [vi a1, vi a0] C f_x_Mo_in_0_2 rfl ?_
  obtain ⟨c1, h⟩ := igd h
  obtain ⟨c2, h⟩ := igd h
  refine m_icmp_lt (tgt := 14) C e_x_Mo_in_2 (by decide) c1 c2 (fun c3 => ?_) (fun c3 => ?_)
  · have h := ifp c3 h
    refine m_blk 15 [(0, vi a0), (1, vi a1), (2, vi a2)] [vi 0] C f_x_Mo_in_14_1 rfl ?_
    exact m_zret C Rm E (Or.inl rfl) e_x_Mo_in_15 (fin1 h)
  · have h := ifn c3 h
    refine m_blk 7 [(0, vi a0), (1, vi a1), (2, vi a2)] [vi a2, vi a0] C f_x_Mo_in_5_2 rfl ?_
    obtain ⟨c4, h⟩ := igd h
    refine m_icmp_gt (tgt := 14) C e_x_Mo_in_7 (by decide) c1 c4 (fun c5 => ?_) (fun c5 => ?_)
    · have h := ifp c5 h
      refine m_blk 15 [(0, vi a0), (1, vi a1), (2, vi a2)] [vi 0] C f_x_Mo_in_14_1 rfl ?_
      exact m_zret C Rm E (Or.inl rfl) e_x_Mo_in_15 (fin1 h)
    · have h := ifn c5 h
      refine m_blk 15 [(0, vi a0), (1, vi a1), (2, vi a2)] [vi 1] C f_x_Mo_in_10_2 rfl ?_
      exact m_zret C Rm E (Or.inr rfl) e_x_Mo_in_15 (fin1 h)

def f_Mo_isName (A : mA) (a0 : Int) : Option (Int × mA) := (Option.bind (f_Mo_in A a0 0 5) (fun q1 => (if (q1.1 = 0 ∨ q1.1 = 1) then (some (q1.1, q1.2)) else none)))
theorem f_x_Mo_isName_0_3 : mblkB b_Mo_isName [(0, .iload_n 0, vi 0), (1, .iconst 0, vi 0), (2, .iconst 5, vi 5)] = true := by decide +kernel
theorem e_x_Mo_isName_3 : decode b_Mo_isName 3 = .ok (.invokestatic 108, 3) := by decide +kernel
theorem e_x_Mo_isName_6 : decode b_Mo_isName 6 = .ok (.ireturn, 1) := by decide +kernel
set_option maxHeartbeats 4000000 in
set_option maxRecDepth 20000 in
theorem x_Mo_isName  : ∀ (l : Launch) (D : va_G) (B : Nat) (H0 : Heap) (ad : mAd) (A : mA) (a0 : Int) (hS : mStr D ad) (r9 : Int) (A9 : mA), f_Mo_isName  A a0 = some (r9, A9) → mMet l D B H0 ad y_Mo_isName b_Mo_isName 1 (some .boolean) 1 22 [vi a0] A (fun v A' => v = some (vi r9) ∧ A' = A9) := by
  intro l D B H0 ad A a0  hS r9 A9 h
  refine m_met (by decide) rfl (fun g w0 C Rm Y E => ?_)
  show JM g D ad w0 A 0 [(0, vi a0)] []
  unfold f_Mo_isName at h
  refine m_blk 3 [(0, vi a0)] [vi 5, vi 0, vi a0] C f_x_Mo_isName_0_3 rfl ?_
  obtain ⟨q1, e2, h⟩ := obd h
  refine m_callS C Rm Y [vi a0, vi 0, vi 5] [] (x_Mo_in l D B H0 ad _ a0 0 5 hS _ _ e2) cl_Mo_108 e_x_Mo_isName_3 rfl rfl rfl ⟨by decide, by decide⟩ ?_
  rintro _ _ ⟨rfl, rfl⟩
  show JM g D ad w0 q1.2 6 [(0, vi a0)] [vi q1.1]
  obtain ⟨c3, h⟩ := igd h
  exact m_zret C Rm E c3 e_x_Mo_isName_6 (fin1 h)

def f_Mo_isByte (A : mA) (a0 : Int) : Option (Int × mA) := (Option.bind (f_Mo_in A a0 0 255) (fun q1 => (if (q1.1 = 0 ∨ q1.1 = 1) then (some (q1.1, q1.2)) else none)))
theorem f_x_Mo_isByte_0_3 : mblkB b_Mo_isByte [(0, .iload_n 0, vi 0), (1, .iconst 0, vi 0), (2, .sipush 255, vi 255)] = true := by decide +kernel
theorem e_x_Mo_isByte_5 : decode b_Mo_isByte 5 = .ok (.invokestatic 108, 3) := by decide +kernel
theorem e_x_Mo_isByte_8 : decode b_Mo_isByte 8 = .ok (.ireturn, 1) := by decide +kernel
set_option maxHeartbeats 4000000 in
set_option maxRecDepth 20000 in
theorem x_Mo_isByte  : ∀ (l : Launch) (D : va_G) (B : Nat) (H0 : Heap) (ad : mAd) (A : mA) (a0 : Int) (hS : mStr D ad) (r9 : Int) (A9 : mA), f_Mo_isByte  A a0 = some (r9, A9) → mMet l D B H0 ad y_Mo_isByte b_Mo_isByte 1 (some .boolean) 1 22 [vi a0] A (fun v A' => v = some (vi r9) ∧ A' = A9) := by
  intro l D B H0 ad A a0  hS r9 A9 h
  refine m_met (by decide) rfl (fun g w0 C Rm Y E => ?_)
  show JM g D ad w0 A 0 [(0, vi a0)] []
  unfold f_Mo_isByte at h
  refine m_blk 5 [(0, vi a0)] [vi 255, vi 0, vi a0] C f_x_Mo_isByte_0_3 rfl ?_
  obtain ⟨q1, e2, h⟩ := obd h
  refine m_callS C Rm Y [vi a0, vi 0, vi 255] [] (x_Mo_in l D B H0 ad _ a0 0 255 hS _ _ e2) cl_Mo_108 e_x_Mo_isByte_5 rfl rfl rfl ⟨by decide, by decide⟩ ?_
  rintro _ _ ⟨rfl, rfl⟩
  show JM g D ad w0 q1.2 8 [(0, vi a0)] [vi q1.1]
  obtain ⟨c3, h⟩ := igd h
  exact m_zret C Rm E c3 e_x_Mo_isByte_8 (fin1 h)

def f_Mo_byteAt (A : mA) (a0 : Int) : Option (Int × mA) := (if g32 a0 then if g32 (A 0 0 22) then (if (A 0 0 22) ≤ a0 then (some ((-1), A)) else (if (0 ≤ a0 ∧ a0 < ((120 : Nat) : Int)) then (some ((A 9 0 a0.toNat), A)) else none)) else none else none)
theorem f_x_Mo_byteAt_0_2 : mblkB b_Mo_byteAt [(0, .iload_n 1, vi 0), (1, .aload_n 0, vi 0)] = true := by decide +kernel
theorem e_x_Mo_byteAt_2 : decode b_Mo_byteAt 2 = .ok (.getfield 116, 3) := by decide +kernel
theorem e_x_Mo_byteAt_5 : decode b_Mo_byteAt 5 = .ok (.if_icmp .ge 12, 3) := by decide +kernel
theorem f_x_Mo_byteAt_17_1 : mblkB b_Mo_byteAt [(17, .iconst (-1), vi (-1))] = true := by decide +kernel
theorem e_x_Mo_byteAt_18 : decode b_Mo_byteAt 18 = .ok (.ireturn, 1) := by decide +kernel
theorem f_x_Mo_byteAt_8_1 : mblkB b_Mo_byteAt [(8, .aload_n 0, vi 0)] = true := by decide +kernel
theorem e_x_Mo_byteAt_9 : decode b_Mo_byteAt 9 = .ok (.getfield 76, 3) := by decide +kernel
theorem f_x_Mo_byteAt_12_1 : mblkB b_Mo_byteAt [(12, .iload_n 1, vi 0)] = true := by decide +kernel
theorem e_x_Mo_byteAt_13 : decode b_Mo_byteAt 13 = .ok (.iaload, 1) := by decide +kernel
theorem f_x_Mo_byteAt_14_1 : mblkB b_Mo_byteAt [(14, .goto 4, vi 18)] = true := by decide +kernel
set_option maxHeartbeats 4000000 in
set_option maxRecDepth 20000 in
theorem x_Mo_byteAt  : ∀ (l : Launch) (D : va_G) (B : Nat) (H0 : Heap) (ad : mAd) (A : mA) (a0 : Int) (hS : mStr D ad) (r9 : Int) (A9 : mA), f_Mo_byteAt  A a0 = some (r9, A9) → mMet l D B H0 ad y_Mo_byteAt b_Mo_byteAt 2 (some .int) 0 0 [vr 0 0, vi a0] A (fun v A' => v = some (vi r9) ∧ A' = A9) := by
  intro l D B H0 ad A a0  hS r9 A9 h
  refine m_met (by decide) rfl (fun g w0 C Rm Y E => ?_)
  show JM g D ad w0 A 0 [(0, vr 0 0), (1, vi a0)] []
  unfold f_Mo_byteAt at h
  refine m_blk 2 [(0, vr 0 0), (1, vi a0)] [vr 0 0, vi a0] C f_x_Mo_byteAt_0_2 rfl ?_
  refine m_geti C e_x_Mo_byteAt_2 fg_Mo_116 rfl (by decide) rfl (A 0 0 22) rfl ?_
  obtain ⟨c1, h⟩ := igd h
  obtain ⟨c2, h⟩ := igd h
  refine m_icmp_ge (tgt := 17) C e_x_Mo_byteAt_5 (by decide) c1 c2 (fun c3 => ?_) (fun c3 => ?_)
  · have h := ifp c3 h
    refine m_blk 18 [(0, vr 0 0), (1, vi a0)] [vi (-1)] C f_x_Mo_byteAt_17_1 rfl ?_
    exact m_iret C Rm E e_x_Mo_byteAt_18 (fin1 h)
  · have h := ifn c3 h
    refine m_blk 9 [(0, vr 0 0), (1, vi a0)] [vr 0 0] C f_x_Mo_byteAt_8_1 rfl ?_
    refine m_getr C e_x_Mo_byteAt_9 fg_Mo_76 rfl (by decide) rfl ?_
    refine m_blk 13 [(0, vr 0 0), (1, vi a0)] [vi a0, vr 9 0] C f_x_Mo_byteAt_12_1 rfl ?_
    obtain ⟨c4, h⟩ := igd h
    refine m_iald C e_x_Mo_byteAt_13 rfl (by decide) (by decide) c4.1 c4.2 (A 9 0 a0.toNat) rfl ?_
    refine m_blk 18 [(0, vr 0 0), (1, vi a0)] [vi (A 9 0 a0.toNat)] C f_x_Mo_byteAt_14_1 rfl ?_
    exact m_iret C Rm E e_x_Mo_byteAt_18 (fin1 h)

def f_Mo_isSign (A : mA) (a0 : Int) : Option (Int × mA) := (if g32 (A 0 0 31) then (if (A 0 0 31) = 0 then (if g32 (A 0 0 25) then (if (A 0 0 25) = 4 then (if g32 (A 0 0 26) then if g32 a0 then (if (A 0 0 26) = a0 then (some (1, A)) else (some (0, A))) else none else none) else (some (0, A))) else none) else (some (0, A))) else none)
theorem f_x_Mo_isSign_0_1 : mblkB b_Mo_isSign [(0, .aload_n 0, vi 0)] = true := by decide +kernel
theorem e_x_Mo_isSign_1 : decode b_Mo_isSign 1 = .ok (.getfield 155, 3) := by decide +kernel
theorem e_x_Mo_isSign_4 : decode b_Mo_isSign 4 = .ok (.ifCond .ne 23, 3) := by decide +kernel
theorem f_x_Mo_isSign_27_1 : mblkB b_Mo_isSign [(27, .iconst 0, vi 0)] = true := by decide +kernel
theorem e_x_Mo_isSign_28 : decode b_Mo_isSign 28 = .ok (.ireturn, 1) := by decide +kernel
theorem f_x_Mo_isSign_7_1 : mblkB b_Mo_isSign [(7, .aload_n 0, vi 0)] = true := by decide +kernel
theorem e_x_Mo_isSign_8 : decode b_Mo_isSign 8 = .ok (.getfield 159, 3) := by decide +kernel
theorem f_x_Mo_isSign_11_1 : mblkB b_Mo_isSign [(11, .iconst 4, vi 4)] = true := by decide +kernel
theorem e_x_Mo_isSign_12 : decode b_Mo_isSign 12 = .ok (.if_icmp .ne 15, 3) := by decide +kernel
theorem f_x_Mo_isSign_15_1 : mblkB b_Mo_isSign [(15, .aload_n 0, vi 0)] = true := by decide +kernel
theorem e_x_Mo_isSign_16 : decode b_Mo_isSign 16 = .ok (.getfield 165, 3) := by decide +kernel
theorem f_x_Mo_isSign_19_1 : mblkB b_Mo_isSign [(19, .iload_n 1, vi 0)] = true := by decide +kernel
theorem e_x_Mo_isSign_20 : decode b_Mo_isSign 20 = .ok (.if_icmp .ne 7, 3) := by decide +kernel
theorem f_x_Mo_isSign_23_2 : mblkB b_Mo_isSign [(23, .iconst 1, vi 1), (24, .goto 4, vi 28)] = true := by decide +kernel
set_option maxHeartbeats 4000000 in
set_option maxRecDepth 20000 in
theorem x_Mo_isSign  : ∀ (l : Launch) (D : va_G) (B : Nat) (H0 : Heap) (ad : mAd) (A : mA) (a0 : Int) (hS : mStr D ad) (r9 : Int) (A9 : mA), f_Mo_isSign  A a0 = some (r9, A9) → mMet l D B H0 ad y_Mo_isSign b_Mo_isSign 2 (some .boolean) 0 0 [vr 0 0, vi a0] A (fun v A' => v = some (vi r9) ∧ A' = A9) := by
  intro l D B H0 ad A a0  hS r9 A9 h
  refine m_met (by decide) rfl (fun g w0 C Rm Y E => ?_)
  show JM g D ad w0 A 0 [(0, vr 0 0), (1, vi a0)] []
  unfold f_Mo_isSign at h
  refine m_blk 1 [(0, vr 0 0), (1, vi a0)] [vr 0 0] C f_x_Mo_isSign_0_1 rfl ?_
  refine m_geti C e_x_Mo_isSign_1 fg_Mo_155 rfl (by decide) rfl (A 0 0 31) rfl ?_
  obtain ⟨c1, h⟩ := igd h
  refine m_if_ne (tgt := 27) C e_x_Mo_isSign_4 (by decide) c1 (fun c2 => ?_) (fun c2 => ?_)
  · have h := ifn c2 h
    refine m_blk 28 [(0, vr 0 0), (1, vi a0)] [vi 0] C f_x_Mo_isSign_27_1 rfl ?_
    exact m_zret C Rm E (Or.inl rfl) e_x_Mo_isSign_28 (fin1 h)
  · have h := ifp c2 h
    refine m_blk 8 [(0, vr 0 0), (1, vi a0)] [vr 0 0] C f_x_Mo_isSign_7_1 rfl ?_
    refine m_geti C e_x_Mo_isSign_8 fg_Mo_159 rfl (by decide) rfl (A 0 0 25) rfl ?_
    refine m_blk 12 [(0, vr 0 0), (1, vi a0)] [vi 4, vi (A 0 0 25)] C f_x_Mo_isSign_11_1 rfl ?_
    obtain ⟨c3, h⟩ := igd h
    refine m_icmp_ne (tgt := 27) C e_x_Mo_isSign_12 (by decide) c3 (by decide) (fun c4 => ?_) (fun c4 => ?_)
    · have h := ifn c4 h
      refine m_blk 28 [(0, vr 0 0), (1, vi a0)] [vi 0] C f_x_Mo_isSign_27_1 rfl ?_
      exact m_zret C Rm E (Or.inl rfl) e_x_Mo_isSign_28 (fin1 h)
    · have h := ifp c4 h
      refine m_blk 16 [(0, vr 0 0), (1, vi a0)] [vr 0 0] C f_x_Mo_isSign_15_1 rfl ?_
      refine m_geti C e_x_Mo_isSign_16 fg_Mo_165 rfl (by decide) rfl (A 0 0 26) rfl ?_
      refine m_blk 20 [(0, vr 0 0), (1, vi a0)] [vi a0, vi (A 0 0 26)] C f_x_Mo_isSign_19_1 rfl ?_
      obtain ⟨c5, h⟩ := igd h
      obtain ⟨c6, h⟩ := igd h
      refine m_icmp_ne (tgt := 27) C e_x_Mo_isSign_20 (by decide) c5 c6 (fun c7 => ?_) (fun c7 => ?_)
      · have h := ifn c7 h
        refine m_blk 28 [(0, vr 0 0), (1, vi a0)] [vi 0] C f_x_Mo_isSign_27_1 rfl ?_
        exact m_zret C Rm E (Or.inl rfl) e_x_Mo_isSign_28 (fin1 h)
      · have h := ifp c7 h
        refine m_blk 28 [(0, vr 0 0), (1, vi a0)] [vi 1] C f_x_Mo_isSign_23_2 rfl ?_
        exact m_zret C Rm E (Or.inr rfl) e_x_Mo_isSign_28 (fin1 h)

def f_Mo_isWord_20 : Nat → mA → Nat → Int → Option (Int × mA)
  | 0, _, _, _ => none
  | n + 1, A, b1, b2 => (if g32 b2 then if g32 ((jlen.getD b1 0 : Nat) : Int) then (if ((jlen.getD b1 0 : Nat) : Int) ≤ b2 then (some (1, A)) else (if (0 ≤ b2 ∧ b2 < ((jlen.getD b1 0 : Nat) : Int)) then (Option.bind (f_Mo_byteAt A ((A 0 0 24) + b2)) (fun q7 => (if g32 (((jbyt.getD b1 []).getD (b2.toNat) 0).toInt) then if g32 q7.1 then (if (((jbyt.getD b1 []).getD (b2.toNat) 0).toInt) = q7.1 then (f_Mo_isWord_20  n q7.2 b1 (b2 + 1)) else (some (0, q7.2))) else none else none))) else none)) else none else none)
def f_Mo_isWord (A : mA) (a0 : Nat) : Option (Int × mA) := (if g32 ((jlen.getD a0 0 : Nat) : Int) then if g32 ((A 0 0 23) - (A 0 0 24)) then (if ((jlen.getD a0 0 : Nat) : Int) = ((A 0 0 23) - (A 0 0 24)) then (f_Mo_isWord_20  1000 A a0 0) else (some (0, A))) else none else none)
theorem f_x_Mo_isWord_0_1 : mblkB b_Mo_isWord [(0, .aload_n 1, vi 0)] = true := by decide +kernel
theorem e_x_Mo_isWord_1 : decode b_Mo_isWord 1 = .ok (.invokevirtual 119, 3) := by decide +kernel
theorem f_x_Mo_isWord_4_1 : mblkB b_Mo_isWord [(4, .aload_n 0, vi 0)] = true := by decide +kernel
theorem e_x_Mo_isWord_5 : decode b_Mo_isWord 5 = .ok (.getfield 125, 3) := by decide +kernel
theorem f_x_Mo_isWord_8_1 : mblkB b_Mo_isWord [(8, .aload_n 0, vi 0)] = true := by decide +kernel
theorem e_x_Mo_isWord_9 : decode b_Mo_isWord 9 = .ok (.getfield 128, 3) := by decide +kernel
theorem f_x_Mo_isWord_12_1 : mblkB b_Mo_isWord [(12, .isub, vi 0)] = true := by decide +kernel
theorem e_x_Mo_isWord_13 : decode b_Mo_isWord 13 = .ok (.if_icmp .eq 5, 3) := by decide +kernel
theorem f_x_Mo_isWord_18_2 : mblkB b_Mo_isWord [(18, .iconst 0, vi 0), (19, .istore_n 2, vi 0)] = true := by decide +kernel
theorem f_x_Mo_isWord_16_1 : mblkB b_Mo_isWord [(16, .iconst 0, vi 0)] = true := by decide +kernel
theorem e_x_Mo_isWord_17 : decode b_Mo_isWord 17 = .ok (.ireturn, 1) := by decide +kernel
theorem f_x_Mo_isWord_20_2 : mblkB b_Mo_isWord [(20, .iload_n 2, vi 0), (21, .aload_n 1, vi 0)] = true := by decide +kernel
theorem e_x_Mo_isWord_22 : decode b_Mo_isWord 22 = .ok (.invokevirtual 119, 3) := by decide +kernel
theorem e_x_Mo_isWord_25 : decode b_Mo_isWord 25 = .ok (.if_icmp .ge 29, 3) := by decide +kernel
theorem f_x_Mo_isWord_54_1 : mblkB b_Mo_isWord [(54, .iconst 1, vi 1)] = true := by decide +kernel
theorem e_x_Mo_isWord_55 : decode b_Mo_isWord 55 = .ok (.ireturn, 1) := by decide +kernel
theorem f_x_Mo_isWord_28_2 : mblkB b_Mo_isWord [(28, .aload_n 1, vi 0), (29, .iload_n 2, vi 0)] = true := by decide +kernel
theorem e_x_Mo_isWord_30 : decode b_Mo_isWord 30 = .ok (.invokevirtual 131, 3) := by decide +kernel
theorem f_x_Mo_isWord_33_2 : mblkB b_Mo_isWord [(33, .aload_n 0, vi 0), (34, .aload_n 0, vi 0)] = true := by decide +kernel
theorem e_x_Mo_isWord_35 : decode b_Mo_isWord 35 = .ok (.getfield 128, 3) := by decide +kernel
theorem f_x_Mo_isWord_38_2 : mblkB b_Mo_isWord [(38, .iload_n 2, vi 0), (39, .iadd, vi 0)] = true := by decide +kernel
theorem e_x_Mo_isWord_40 : decode b_Mo_isWord 40 = .ok (.invokevirtual 135, 3) := by decide +kernel
theorem e_x_Mo_isWord_43 : decode b_Mo_isWord 43 = .ok (.if_icmp .eq 5, 3) := by decide +kernel
theorem f_x_Mo_isWord_48_2 : mblkB b_Mo_isWord [(48, .iinc 2 1, vi 1), (51, .goto (-31), vi 20)] = true := by decide +kernel
theorem f_x_Mo_isWord_46_1 : mblkB b_Mo_isWord [(46, .iconst 0, vi 0)] = true := by decide +kernel
theorem e_x_Mo_isWord_47 : decode b_Mo_isWord 47 = .ok (.ireturn, 1) := by decide +kernel
set_option maxHeartbeats 4000000 in
set_option maxRecDepth 20000 in
theorem x_Mo_isWord  : ∀ (l : Launch) (D : va_G) (B : Nat) (H0 : Heap) (ad : mAd) (A : mA) (a0 : Nat) (h_a0 : a0 < 13) (hS : mStr D ad) (r9 : Int) (A9 : mA), f_Mo_isWord  A a0 = some (r9, A9) → mMet l D B H0 ad y_Mo_isWord b_Mo_isWord 3 (some .boolean) 4 141 [vr 0 0, vr 90 a0] A (fun v A' => v = some (vi r9) ∧ A' = A9) := by
  intro l D B H0 ad A a0 h_a0 hS r9 A9 h
  refine m_met (by decide) rfl (fun g w0 C Rm Y E => ?_)
  have hd_20 : ∀ (n : Nat) (A : mA) (b1 : Nat) (b2 : Int) , b1 < 13 → f_Mo_isWord_20  n A b1 b2 = some (r9, A9) → JM g D ad w0 A 20 [(0, vr 0 0), (1, vr 90 b1), (2, vi b2)] [] := by
    intro n
    induction n with
    | zero => intro A b1 b2 h_b1 h; cases h
    | succ n ih =>
      intro A b1 b2 h_b1 h
      unfold f_Mo_isWord_20 at h
      refine m_blk 22 [(0, vr 0 0), (1, vr 90 b1), (2, vi b2)] [vr 90 b1, vi b2] C f_x_Mo_isWord_20_2 rfl ?_
      refine m_slen C Rm Y hS [vi b2] h_b1 cl_Mo_119 e_x_Mo_isWord_22 rfl ⟨by decide, by decide⟩ (fun z1 hz1 => ?_)
      obtain rfl := hz1.2.2
      obtain ⟨c2, h⟩ := igd h
      obtain ⟨c3, h⟩ := igd h
      refine m_icmp_ge (tgt := 54) C e_x_Mo_isWord_25 (by decide) c2 c3 (fun c4 => ?_) (fun c4 => ?_)
      · have h := ifp c4 h
        refine m_blk 55 [(0, vr 0 0), (1, vr 90 b1), (2, vi b2)] [vi 1] C f_x_Mo_isWord_54_1 rfl ?_
        exact m_zret C Rm E (Or.inr rfl) e_x_Mo_isWord_55 (fin1 h)
      · have h := ifn c4 h
        refine m_blk 30 [(0, vr 0 0), (1, vr 90 b1), (2, vi b2)] [vi b2, vr 90 b1] C f_x_Mo_isWord_28_2 rfl ?_
        obtain ⟨c5, h⟩ := igd h
        refine m_scat C Rm Y hS [] h_b1 cl_Mo_131 c5 e_x_Mo_isWord_30 rfl ⟨by decide, by decide⟩ (fun z6 hz6 => ?_)
        obtain rfl := hz6.2
        refine m_blk 35 [(0, vr 0 0), (1, vr 90 b1), (2, vi b2)] [vr 0 0, vr 0 0, vi (((jbyt.getD b1 []).getD (b2.toNat) 0).toInt)] C f_x_Mo_isWord_33_2 rfl ?_
        refine m_geti C e_x_Mo_isWord_35 fg_Mo_128 rfl (by decide) rfl (A 0 0 24) rfl ?_
        refine m_blk 40 [(0, vr 0 0), (1, vr 90 b1), (2, vi b2)] [vi ((A 0 0 24) + b2), vr 0 0, vi (((jbyt.getD b1 []).getD (b2.toNat) 0).toInt)] C f_x_Mo_isWord_38_2 rfl ?_
        obtain ⟨q7, e8, h⟩ := obd h
        refine m_callV C Rm Y [vi ((A 0 0 24) + b2)] [vi (((jbyt.getD b1 []).getD (b2.toNat) 0).toInt)] (x_Mo_byteAt l D B H0 ad _ ((A 0 0 24) + b2) hS _ _ e8) cl_Mo_135 rfl (by decide) rfl rfl e_x_Mo_isWord_40 rfl rfl rfl ⟨by decide, by decide⟩ ?_
        rintro _ _ ⟨rfl, rfl⟩
        show JM g D ad w0 q7.2 43 [(0, vr 0 0), (1, vr 90 b1), (2, vi b2)] [vi q7.1, vi (((jbyt.getD b1 []).getD (b2.toNat) 0).toInt)]
        obtain ⟨c9, h⟩ := igd h
        obtain ⟨c10, h⟩ := igd h
        refine m_icmp_eq (tgt := 48) C e_x_Mo_isWord_43 (by decide) c9 c10 (fun c11 => ?_) (fun c11 => ?_)
        · have h := ifp c11 h
          refine m_blk 20 [(2, vi (b2 + 1)), (0, vr 0 0), (1, vr 90 b1)] [] C f_x_Mo_isWord_48_2 rfl ?_
          refine m_loc [(0, vr 0 0), (1, vr 90 b1), (2, vi (b2 + 1))] ⟨rfl, rfl, rfl, trivial⟩ ?_
          exact ih q7.2 b1 (b2 + 1) (h_b1) h
        · have h := ifn c11 h
          refine m_blk 47 [(0, vr 0 0), (1, vr 90 b1), (2, vi b2)] [vi 0] C f_x_Mo_isWord_46_1 rfl ?_
          exact m_zret C Rm E (Or.inl rfl) e_x_Mo_isWord_47 (fin1 h)
  show JM g D ad w0 A 0 [(0, vr 0 0), (1, vr 90 a0)] []
  unfold f_Mo_isWord at h
  refine m_blk 1 [(0, vr 0 0), (1, vr 90 a0)] [vr 90 a0] C f_x_Mo_isWord_0_1 rfl ?_
  refine m_slen C Rm Y hS [] h_a0 cl_Mo_119 e_x_Mo_isWord_1 rfl ⟨by decide, by decide⟩ (fun z12 hz12 => ?_)
  obtain rfl := hz12.2.2
  refine m_blk 5 [(0, vr 0 0), (1, vr 90 a0)] [vr 0 0, vi ((jlen.getD a0 0 : Nat) : Int)] C f_x_Mo_isWord_4_1 rfl ?_
  refine m_geti C e_x_Mo_isWord_5 fg_Mo_125 rfl (by decide) rfl (A 0 0 23) rfl ?_
  refine m_blk 9 [(0, vr 0 0), (1, vr 90 a0)] [vr 0 0, vi (A 0 0 23), vi ((jlen.getD a0 0 : Nat) : Int)] C f_x_Mo_isWord_8_1 rfl ?_
  refine m_geti C e_x_Mo_isWord_9 fg_Mo_128 rfl (by decide) rfl (A 0 0 24) rfl ?_
  refine m_blk 13 [(0, vr 0 0), (1, vr 90 a0)] [vi ((A 0 0 23) - (A 0 0 24)), vi ((jlen.getD a0 0 : Nat) : Int)] C f_x_Mo_isWord_12_1 rfl ?_
  obtain ⟨c13, h⟩ := igd h
  obtain ⟨c14, h⟩ := igd h
  refine m_icmp_eq (tgt := 18) C e_x_Mo_isWord_13 (by decide) c13 c14 (fun c15 => ?_) (fun c15 => ?_)
  · have h := ifp c15 h
    refine m_blk 20 [(2, vi 0), (0, vr 0 0), (1, vr 90 a0)] [] C f_x_Mo_isWord_18_2 rfl ?_
    refine m_loc [(0, vr 0 0), (1, vr 90 a0), (2, vi 0)] ⟨rfl, rfl, rfl, trivial⟩ ?_
    exact hd_20 _ A a0 0 (h_a0) h
  · have h := ifn c15 h
    refine m_blk 17 [(0, vr 0 0), (1, vr 90 a0)] [vi 0] C f_x_Mo_isWord_16_1 rfl ?_
    exact m_zret C Rm E (Or.inl rfl) e_x_Mo_isWord_17 (fin1 h)

def f_Mo_wordRead (A : mA)  : Option (Int × mA) := (Option.bind (f_Mo_isWord A 6) (fun q1 => (if g32 q1.1 then (if q1.1 = 0 then (Option.bind (f_Mo_isWord q1.2 7) (fun q5 => (if g32 q5.1 then (if q5.1 = 0 then (Option.bind (f_Mo_isWord q5.2 8) (fun q9 => (if g32 q9.1 then (if q9.1 = 0 then (Option.bind (f_Mo_isWord q9.2 9) (fun q13 => (if g32 q13.1 then (if q13.1 = 0 then (Option.bind (f_Mo_isWord q13.2 10) (fun q17 => (if g32 q17.1 then (if q17.1 = 0 then (Option.bind (f_Mo_isWord q17.2 11) (fun q21 => (if g32 q21.1 then (if q21.1 = 0 then (some ((-1), q21.2)) else (some (5, q21.2))) else none))) else (some (4, q17.2))) else none))) else (some (3, q13.2))) else none))) else (some (2, q9.2))) else none))) else (some (1, q5.2))) else none))) else (some (0, q1.2))) else none)))
theorem f_x_Mo_wordRead_0_1 : mblkB b_Mo_wordRead [(0, .aload_n 0, vi 0)] = true := by decide +kernel
theorem e_x_Mo_wordRead_1 : decode b_Mo_wordRead 1 = .ok (.ldc 139, 2) := by decide +kernel
theorem e_x_Mo_wordRead_3 : decode b_Mo_wordRead 3 = .ok (.invokevirtual 141, 3) := by decide +kernel
theorem e_x_Mo_wordRead_6 : decode b_Mo_wordRead 6 = .ok (.ifCond .eq 7, 3) := by decide +kernel
theorem f_x_Mo_wordRead_13_1 : mblkB b_Mo_wordRead [(13, .aload_n 0, vi 0)] = true := by decide +kernel
theorem e_x_Mo_wordRead_14 : decode b_Mo_wordRead 14 = .ok (.ldc 145, 2) := by decide +kernel
theorem e_x_Mo_wordRead_16 : decode b_Mo_wordRead 16 = .ok (.invokevirtual 141, 3) := by decide +kernel
theorem e_x_Mo_wordRead_19 : decode b_Mo_wordRead 19 = .ok (.ifCond .eq 7, 3) := by decide +kernel
theorem f_x_Mo_wordRead_26_1 : mblkB b_Mo_wordRead [(26, .aload_n 0, vi 0)] = true := by decide +kernel
theorem e_x_Mo_wordRead_27 : decode b_Mo_wordRead 27 = .ok (.ldc 147, 2) := by decide +kernel
theorem e_x_Mo_wordRead_29 : decode b_Mo_wordRead 29 = .ok (.invokevirtual 141, 3) := by decide +kernel
theorem e_x_Mo_wordRead_32 : decode b_Mo_wordRead 32 = .ok (.ifCond .eq 7, 3) := by decide +kernel
theorem f_x_Mo_wordRead_39_1 : mblkB b_Mo_wordRead [(39, .aload_n 0, vi 0)] = true := by decide +kernel
theorem e_x_Mo_wordRead_40 : decode b_Mo_wordRead 40 = .ok (.ldc 149, 2) := by decide +kernel
theorem e_x_Mo_wordRead_42 : decode b_Mo_wordRead 42 = .ok (.invokevirtual 141, 3) := by decide +kernel
theorem e_x_Mo_wordRead_45 : decode b_Mo_wordRead 45 = .ok (.ifCond .eq 7, 3) := by decide +kernel
theorem f_x_Mo_wordRead_52_1 : mblkB b_Mo_wordRead [(52, .aload_n 0, vi 0)] = true := by decide +kernel
theorem e_x_Mo_wordRead_53 : decode b_Mo_wordRead 53 = .ok (.ldc 151, 2) := by decide +kernel
theorem e_x_Mo_wordRead_55 : decode b_Mo_wordRead 55 = .ok (.invokevirtual 141, 3) := by decide +kernel
theorem e_x_Mo_wordRead_58 : decode b_Mo_wordRead 58 = .ok (.ifCond .eq 7, 3) := by decide +kernel
theorem f_x_Mo_wordRead_65_1 : mblkB b_Mo_wordRead [(65, .aload_n 0, vi 0)] = true := by decide +kernel
theorem e_x_Mo_wordRead_66 : decode b_Mo_wordRead 66 = .ok (.ldc 153, 2) := by decide +kernel
theorem e_x_Mo_wordRead_68 : decode b_Mo_wordRead 68 = .ok (.invokevirtual 141, 3) := by decide +kernel
theorem e_x_Mo_wordRead_71 : decode b_Mo_wordRead 71 = .ok (.ifCond .eq 7, 3) := by decide +kernel
theorem f_x_Mo_wordRead_78_1 : mblkB b_Mo_wordRead [(78, .iconst (-1), vi (-1))] = true := by decide +kernel
theorem e_x_Mo_wordRead_79 : decode b_Mo_wordRead 79 = .ok (.ireturn, 1) := by decide +kernel
theorem f_x_Mo_wordRead_74_2 : mblkB b_Mo_wordRead [(74, .iconst 5, vi 5), (75, .goto 4, vi 79)] = true := by decide +kernel
theorem f_x_Mo_wordRead_61_2 : mblkB b_Mo_wordRead [(61, .iconst 4, vi 4), (62, .goto 17, vi 79)] = true := by decide +kernel
theorem f_x_Mo_wordRead_48_2 : mblkB b_Mo_wordRead [(48, .iconst 3, vi 3), (49, .goto 30, vi 79)] = true := by decide +kernel
theorem f_x_Mo_wordRead_35_2 : mblkB b_Mo_wordRead [(35, .iconst 2, vi 2), (36, .goto 43, vi 79)] = true := by decide +kernel
theorem f_x_Mo_wordRead_22_2 : mblkB b_Mo_wordRead [(22, .iconst 1, vi 1), (23, .goto 56, vi 79)] = true := by decide +kernel
theorem f_x_Mo_wordRead_9_2 : mblkB b_Mo_wordRead [(9, .iconst 0, vi 0), (10, .goto 69, vi 79)] = true := by decide +kernel
set_option maxHeartbeats 4000000 in
set_option maxRecDepth 20000 in
theorem x_Mo_wordRead  : ∀ (l : Launch) (D : va_G) (B : Nat) (H0 : Heap) (ad : mAd) (A : mA)  (hS : mStr D ad) (r9 : Int) (A9 : mA), f_Mo_wordRead  A  = some (r9, A9) → mMet l D B H0 ad y_Mo_wordRead b_Mo_wordRead 1 (some .int) 5 163 [vr 0 0] A (fun v A' => v = some (vi r9) ∧ A' = A9) := by
  intro l D B H0 ad A   hS r9 A9 h
  refine m_met (by decide) rfl (fun g w0 C Rm Y E => ?_)
  show JM g D ad w0 A 0 [(0, vr 0 0)] []
  unfold f_Mo_wordRead at h
  refine m_blk 1 [(0, vr 0 0)] [vr 0 0] C f_x_Mo_wordRead_0_1 rfl ?_
  refine m_ldcS (i := 6) C hS (by decide) rfl e_x_Mo_wordRead_1 ?_
  obtain ⟨q1, e2, h⟩ := obd h
  refine m_callV C Rm Y [vr 90 6] [] (x_Mo_isWord l D B H0 ad _ 6 (by decide) hS _ _ e2) cl_Mo_141 rfl (by decide) rfl rfl e_x_Mo_wordRead_3 rfl rfl rfl ⟨by decide, by decide⟩ ?_
  rintro _ _ ⟨rfl, rfl⟩
  show JM g D ad w0 q1.2 6 [(0, vr 0 0)] [vi q1.1]
  obtain ⟨c3, h⟩ := igd h
  refine m_if_eq (tgt := 13) C e_x_Mo_wordRead_6 (by decide) c3 (fun c4 => ?_) (fun c4 => ?_)
  · have h := ifp c4 h
    refine m_blk 14 [(0, vr 0 0)] [vr 0 0] C f_x_Mo_wordRead_13_1 rfl ?_
    refine m_ldcS (i := 7) C hS (by decide) rfl e_x_Mo_wordRead_14 ?_
    obtain ⟨q5, e6, h⟩ := obd h
    refine m_callV C Rm Y [vr 90 7] [] (x_Mo_isWord l D B H0 ad _ 7 (by decide) hS _ _ e6) cl_Mo_141 rfl (by decide) rfl rfl e_x_Mo_wordRead_16 rfl rfl rfl ⟨by decide, by decide⟩ ?_
    rintro _ _ ⟨rfl, rfl⟩
    show JM g D ad w0 q5.2 19 [(0, vr 0 0)] [vi q5.1]
    obtain ⟨c7, h⟩ := igd h
    refine m_if_eq (tgt := 26) C e_x_Mo_wordRead_19 (by decide) c7 (fun c8 => ?_) (fun c8 => ?_)
    · have h := ifp c8 h
      refine m_blk 27 [(0, vr 0 0)] [vr 0 0] C f_x_Mo_wordRead_26_1 rfl ?_
      refine m_ldcS (i := 8) C hS (by decide) rfl e_x_Mo_wordRead_27 ?_
      obtain ⟨q9, e10, h⟩ := obd h
      refine m_callV C Rm Y [vr 90 8] [] (x_Mo_isWord l D B H0 ad _ 8 (by decide) hS _ _ e10) cl_Mo_141 rfl (by decide) rfl rfl e_x_Mo_wordRead_29 rfl rfl rfl ⟨by decide, by decide⟩ ?_
      rintro _ _ ⟨rfl, rfl⟩
      show JM g D ad w0 q9.2 32 [(0, vr 0 0)] [vi q9.1]
      obtain ⟨c11, h⟩ := igd h
      refine m_if_eq (tgt := 39) C e_x_Mo_wordRead_32 (by decide) c11 (fun c12 => ?_) (fun c12 => ?_)
      · have h := ifp c12 h
        refine m_blk 40 [(0, vr 0 0)] [vr 0 0] C f_x_Mo_wordRead_39_1 rfl ?_
        refine m_ldcS (i := 9) C hS (by decide) rfl e_x_Mo_wordRead_40 ?_
        obtain ⟨q13, e14, h⟩ := obd h
        refine m_callV C Rm Y [vr 90 9] [] (x_Mo_isWord l D B H0 ad _ 9 (by decide) hS _ _ e14) cl_Mo_141 rfl (by decide) rfl rfl e_x_Mo_wordRead_42 rfl rfl rfl ⟨by decide, by decide⟩ ?_
        rintro _ _ ⟨rfl, rfl⟩
        show JM g D ad w0 q13.2 45 [(0, vr 0 0)] [vi q13.1]
        obtain ⟨c15, h⟩ := igd h
        refine m_if_eq (tgt := 52) C e_x_Mo_wordRead_45 (by decide) c15 (fun c16 => ?_) (fun c16 => ?_)
        · have h := ifp c16 h
          refine m_blk 53 [(0, vr 0 0)] [vr 0 0] C f_x_Mo_wordRead_52_1 rfl ?_
          refine m_ldcS (i := 10) C hS (by decide) rfl e_x_Mo_wordRead_53 ?_
          obtain ⟨q17, e18, h⟩ := obd h
          refine m_callV C Rm Y [vr 90 10] [] (x_Mo_isWord l D B H0 ad _ 10 (by decide) hS _ _ e18) cl_Mo_141 rfl (by decide) rfl rfl e_x_Mo_wordRead_55 rfl rfl rfl ⟨by decide, by decide⟩ ?_
          rintro _ _ ⟨rfl, rfl⟩
          show JM g D ad w0 q17.2 58 [(0, vr 0 0)] [vi q17.1]
          obtain ⟨c19, h⟩ := igd h
          refine m_if_eq (tgt := 65) C e_x_Mo_wordRead_58 (by decide) c19 (fun c20 => ?_) (fun c20 => ?_)
          · have h := ifp c20 h
            refine m_blk 66 [(0, vr 0 0)] [vr 0 0] C f_x_Mo_wordRead_65_1 rfl ?_
            refine m_ldcS (i := 11) C hS (by decide) rfl e_x_Mo_wordRead_66 ?_
            obtain ⟨q21, e22, h⟩ := obd h
            refine m_callV C Rm Y [vr 90 11] [] (x_Mo_isWord l D B H0 ad _ 11 (by decide) hS _ _ e22) cl_Mo_141 rfl (by decide) rfl rfl e_x_Mo_wordRead_68 rfl rfl rfl ⟨by decide, by decide⟩ ?_
            rintro _ _ ⟨rfl, rfl⟩
            show JM g D ad w0 q21.2 71 [(0, vr 0 0)] [vi q21.1]
            obtain ⟨c23, h⟩ := igd h
            refine m_if_eq (tgt := 78) C e_x_Mo_wordRead_71 (by decide) c23 (fun c24 => ?_) (fun c24 => ?_)
            · have h := ifp c24 h
              refine m_blk 79 [(0, vr 0 0)] [vi (-1)] C f_x_Mo_wordRead_78_1 rfl ?_
              exact m_iret C Rm E e_x_Mo_wordRead_79 (fin1 h)
            · have h := ifn c24 h
              refine m_blk 79 [(0, vr 0 0)] [vi 5] C f_x_Mo_wordRead_74_2 rfl ?_
              exact m_iret C Rm E e_x_Mo_wordRead_79 (fin1 h)
          · have h := ifn c20 h
            refine m_blk 79 [(0, vr 0 0)] [vi 4] C f_x_Mo_wordRead_61_2 rfl ?_
            exact m_iret C Rm E e_x_Mo_wordRead_79 (fin1 h)
        · have h := ifn c16 h
          refine m_blk 79 [(0, vr 0 0)] [vi 3] C f_x_Mo_wordRead_48_2 rfl ?_
          exact m_iret C Rm E e_x_Mo_wordRead_79 (fin1 h)
      · have h := ifn c12 h
        refine m_blk 79 [(0, vr 0 0)] [vi 2] C f_x_Mo_wordRead_35_2 rfl ?_
        exact m_iret C Rm E e_x_Mo_wordRead_79 (fin1 h)
    · have h := ifn c8 h
      refine m_blk 79 [(0, vr 0 0)] [vi 1] C f_x_Mo_wordRead_22_2 rfl ?_
      exact m_iret C Rm E e_x_Mo_wordRead_79 (fin1 h)
  · have h := ifn c4 h
    refine m_blk 79 [(0, vr 0 0)] [vi 0] C f_x_Mo_wordRead_9_2 rfl ?_
    exact m_iret C Rm E e_x_Mo_wordRead_79 (fin1 h)

def f_Mo_next_217 : Nat → mA → Option (Int × mA)
  | 0, _ => none
  | n + 1, A => (Option.bind (f_Mo_byteAt A (A 0 0 23)) (fun q1 => (Option.bind (f_Mo_in q1.2 q1.1 48 57) (fun q3 => (if g32 q3.1 then (if q3.1 = 0 then (if g32 ((q3.2 0 0 23) - (q3.2 0 0 24)) then (if ((q3.2 0 0 23) - (q3.2 0 0 24)) ≤ 2 then (some (0, (mu q3.2 0 0 31 0))) else (some (0, (mu q3.2 0 0 31 1)))) else none) else (if g32 ((q3.2 0 0 23) - (q3.2 0 0 24)) then (if 2 ≤ ((q3.2 0 0 23) - (q3.2 0 0 24)) then (f_Mo_next_217  n (mu q3.2 0 0 23 ((q3.2 0 0 23) + 1)) ) else (Option.bind (f_Mo_byteAt q3.2 (q3.2 0 0 23)) (fun q11 => (f_Mo_next_217  n (mu (mu q11.2 0 0 26 (((10 * (q3.2 0 0 26)) + q11.1) - 48)) 0 0 23 ((q11.2 0 0 23) + 1)) )))) else none)) else none)))))
def f_Mo_next_88 : Nat → mA → Int → Option (Int × mA)
  | 0, _, _ => none
  | n + 1, A, b1 => (Option.bind (f_Mo_byteAt A (A 0 0 23)) (fun q13 => (Option.bind (f_Mo_in q13.2 q13.1 97 122) (fun q15 => (if g32 q15.1 then (if q15.1 = 0 then (if g32 ((q15.2 0 0 23) - (q15.2 0 0 24)) then (if ((q15.2 0 0 23) - (q15.2 0 0 24)) = 1 then (if g32 b1 then (if 102 < b1 then (Option.bind (f_Mo_wordRead (mu q15.2 0 0 25 2) ) (fun q31 => (if g32 q31.1 then (if q31.1 = (-1) then (some (0, (mu (mu q31.2 0 0 26 q31.1) 0 0 31 1))) else (some (0, (mu (mu q31.2 0 0 26 q31.1) 0 0 31 0)))) else none))) else (if g32 (b1 - 97) then (if (b1 - 97) = (-1) then (some (0, (mu (mu (mu q15.2 0 0 25 1) 0 0 26 (b1 - 97)) 0 0 31 1))) else (some (0, (mu (mu (mu q15.2 0 0 25 1) 0 0 26 (b1 - 97)) 0 0 31 0)))) else none)) else none) else (Option.bind (f_Mo_wordRead (mu q15.2 0 0 25 2) ) (fun q23 => (if g32 q23.1 then (if q23.1 = (-1) then (some (0, (mu (mu q23.2 0 0 26 q23.1) 0 0 31 1))) else (some (0, (mu (mu q23.2 0 0 26 q23.1) 0 0 31 0)))) else none)))) else none) else (f_Mo_next_88  n (mu q15.2 0 0 23 ((q15.2 0 0 23) + 1)) b1)) else none)))))
def f_Mo_next_8 : Nat → mA → Option (Int × mA)
  | 0, _ => none
  | n + 1, A => (Option.bind (f_Mo_byteAt A (A 0 0 23)) (fun q39 => (if g32 q39.1 then (if q39.1 = 32 then (f_Mo_next_8  n (mu q39.2 0 0 23 ((q39.2 0 0 23) + 1)) ) else (Option.bind (f_Mo_byteAt q39.2 (q39.2 0 0 23)) (fun q43 => (if g32 q43.1 then (if q43.1 = 10 then (f_Mo_next_8  n (mu q43.2 0 0 23 ((q43.2 0 0 23) + 1)) ) else (Option.bind (f_Mo_byteAt (mu q43.2 0 0 24 (q43.2 0 0 23)) (q43.2 0 0 23)) (fun q47 => (if g32 q47.1 then (if q47.1 = (-1) then (some (0, (mu q47.2 0 0 25 0))) else (Option.bind (f_Mo_in q47.2 q47.1 97 122) (fun q51 => (if g32 q51.1 then (if q51.1 = 0 then (Option.bind (f_Mo_in q51.2 q47.1 48 57) (fun q55 => (if g32 q55.1 then (if q55.1 = 0 then (if (0 ≤ q47.1 ∧ q47.1 ≤ 255) then (if g32 (jIx 12 q47.1) then (if 0 ≤ (jIx 12 q47.1) then (some (0, (mu (mu (mu (mu q55.2 0 0 25 4) 0 0 26 q47.1) 0 0 23 ((q55.2 0 0 23) + 1)) 0 0 31 0))) else (some (0, (mu (mu (mu (mu q55.2 0 0 25 4) 0 0 26 q47.1) 0 0 23 ((q55.2 0 0 23) + 1)) 0 0 31 1)))) else none) else none) else (f_Mo_next_217  200 (mu (mu q55.2 0 0 25 3) 0 0 26 0) )) else none))) else (f_Mo_next_88  200 q51.2 q47.1)) else none)))) else none)))) else none)))) else none)))
def f_Mo_next (A : mA)  : Option (Int × mA) := (if g32 (A 0 0 31) then (if (A 0 0 31) = 0 then (f_Mo_next_8  200 A ) else (some (0, A))) else none)
theorem f_x_Mo_next_0_1 : mblkB b_Mo_next [(0, .aload_n 0, vi 0)] = true := by decide +kernel
theorem e_x_Mo_next_1 : decode b_Mo_next 1 = .ok (.getfield 155, 3) := by decide +kernel
theorem e_x_Mo_next_4 : decode b_Mo_next 4 = .ok (.ifCond .eq 4, 3) := by decide +kernel
theorem e_x_Mo_next_7 : decode b_Mo_next 7 = .ok (.return_, 1) := by decide +kernel
theorem f_x_Mo_next_8_2 : mblkB b_Mo_next [(8, .aload_n 0, vi 0), (9, .aload_n 0, vi 0)] = true := by decide +kernel
theorem e_x_Mo_next_10 : decode b_Mo_next 10 = .ok (.getfield 125, 3) := by decide +kernel
theorem e_x_Mo_next_13 : decode b_Mo_next 13 = .ok (.invokevirtual 135, 3) := by decide +kernel
theorem f_x_Mo_next_16_1 : mblkB b_Mo_next [(16, .bipush 32, vi 32)] = true := by decide +kernel
theorem e_x_Mo_next_18 : decode b_Mo_next 18 = .ok (.if_icmp .eq 16, 3) := by decide +kernel
theorem f_x_Mo_next_34_2 : mblkB b_Mo_next [(34, .aload_n 0, vi 0), (35, .dup, vi 0)] = true := by decide +kernel
theorem e_x_Mo_next_36 : decode b_Mo_next 36 = .ok (.getfield 125, 3) := by decide +kernel
theorem f_x_Mo_next_39_2 : mblkB b_Mo_next [(39, .iconst 1, vi 1), (40, .iadd, vi 0)] = true := by decide +kernel
theorem e_x_Mo_next_41 : decode b_Mo_next 41 = .ok (.putfield 125, 3) := by decide +kernel
theorem f_x_Mo_next_44_1 : mblkB b_Mo_next [(44, .goto (-36), vi 8)] = true := by decide +kernel
theorem f_x_Mo_next_21_2 : mblkB b_Mo_next [(21, .aload_n 0, vi 0), (22, .aload_n 0, vi 0)] = true := by decide +kernel
theorem e_x_Mo_next_23 : decode b_Mo_next 23 = .ok (.getfield 125, 3) := by decide +kernel
theorem e_x_Mo_next_26 : decode b_Mo_next 26 = .ok (.invokevirtual 135, 3) := by decide +kernel
theorem f_x_Mo_next_29_1 : mblkB b_Mo_next [(29, .bipush 10, vi 10)] = true := by decide +kernel
theorem e_x_Mo_next_31 : decode b_Mo_next 31 = .ok (.if_icmp .ne 16, 3) := by decide +kernel
theorem f_x_Mo_next_47_2 : mblkB b_Mo_next [(47, .aload_n 0, vi 0), (48, .aload_n 0, vi 0)] = true := by decide +kernel
theorem e_x_Mo_next_49 : decode b_Mo_next 49 = .ok (.getfield 125, 3) := by decide +kernel
theorem e_x_Mo_next_52 : decode b_Mo_next 52 = .ok (.putfield 128, 3) := by decide +kernel
theorem f_x_Mo_next_55_2 : mblkB b_Mo_next [(55, .aload_n 0, vi 0), (56, .aload_n 0, vi 0)] = true := by decide +kernel
theorem e_x_Mo_next_57 : decode b_Mo_next 57 = .ok (.getfield 125, 3) := by decide +kernel
theorem e_x_Mo_next_60 : decode b_Mo_next 60 = .ok (.invokevirtual 135, 3) := by decide +kernel
theorem f_x_Mo_next_63_3 : mblkB b_Mo_next [(63, .istore_n 1, vi 0), (64, .iload_n 1, vi 0), (65, .iconst (-1), vi (-1))] = true := by decide +kernel
theorem e_x_Mo_next_66 : decode b_Mo_next 66 = .ok (.if_icmp .ne 11, 3) := by decide +kernel
theorem f_x_Mo_next_77_3 : mblkB b_Mo_next [(77, .iload_n 1, vi 0), (78, .bipush 97, vi 97), (80, .bipush 122, vi 122)] = true := by decide +kernel
theorem e_x_Mo_next_82 : decode b_Mo_next 82 = .ok (.invokestatic 108, 3) := by decide +kernel
theorem e_x_Mo_next_85 : decode b_Mo_next 85 = .ok (.ifCond .eq 111, 3) := by decide +kernel
theorem f_x_Mo_next_196_3 : mblkB b_Mo_next [(196, .iload_n 1, vi 0), (197, .bipush 48, vi 48), (199, .bipush 57, vi 57)] = true := by decide +kernel
theorem e_x_Mo_next_201 : decode b_Mo_next 201 = .ok (.invokestatic 108, 3) := by decide +kernel
theorem e_x_Mo_next_204 : decode b_Mo_next 204 = .ok (.ifCond .eq 105, 3) := by decide +kernel
theorem f_x_Mo_next_309_2 : mblkB b_Mo_next [(309, .aload_n 0, vi 0), (310, .iconst 4, vi 4)] = true := by decide +kernel
theorem e_x_Mo_next_311 : decode b_Mo_next 311 = .ok (.putfield 159, 3) := by decide +kernel
theorem f_x_Mo_next_314_2 : mblkB b_Mo_next [(314, .aload_n 0, vi 0), (315, .iload_n 1, vi 0)] = true := by decide +kernel
theorem e_x_Mo_next_316 : decode b_Mo_next 316 = .ok (.putfield 165, 3) := by decide +kernel
theorem f_x_Mo_next_319_2 : mblkB b_Mo_next [(319, .aload_n 0, vi 0), (320, .dup, vi 0)] = true := by decide +kernel
theorem e_x_Mo_next_321 : decode b_Mo_next 321 = .ok (.getfield 125, 3) := by decide +kernel
theorem f_x_Mo_next_324_2 : mblkB b_Mo_next [(324, .iconst 1, vi 1), (325, .iadd, vi 0)] = true := by decide +kernel
theorem e_x_Mo_next_326 : decode b_Mo_next 326 = .ok (.putfield 125, 3) := by decide +kernel
theorem f_x_Mo_next_329_1 : mblkB b_Mo_next [(329, .aload_n 0, vi 0)] = true := by decide +kernel
theorem e_x_Mo_next_330 : decode b_Mo_next 330 = .ok (.ldc 168, 2) := by decide +kernel
theorem f_x_Mo_next_332_1 : mblkB b_Mo_next [(332, .iload_n 1, vi 0)] = true := by decide +kernel
theorem e_x_Mo_next_333 : decode b_Mo_next 333 = .ok (.invokevirtual 170, 3) := by decide +kernel
theorem e_x_Mo_next_336 : decode b_Mo_next 336 = .ok (.ifCond .ge 7, 3) := by decide +kernel
theorem f_x_Mo_next_343_1 : mblkB b_Mo_next [(343, .iconst 0, vi 0)] = true := by decide +kernel
theorem e_x_Mo_next_344 : decode b_Mo_next 344 = .ok (.putfield 155, 3) := by decide +kernel
theorem e_x_Mo_next_347 : decode b_Mo_next 347 = .ok (.return_, 1) := by decide +kernel
theorem f_x_Mo_next_339_2 : mblkB b_Mo_next [(339, .iconst 1, vi 1), (340, .goto 4, vi 344)] = true := by decide +kernel
theorem f_x_Mo_next_207_2 : mblkB b_Mo_next [(207, .aload_n 0, vi 0), (208, .iconst 3, vi 3)] = true := by decide +kernel
theorem e_x_Mo_next_209 : decode b_Mo_next 209 = .ok (.putfield 159, 3) := by decide +kernel
theorem f_x_Mo_next_212_2 : mblkB b_Mo_next [(212, .aload_n 0, vi 0), (213, .iconst 0, vi 0)] = true := by decide +kernel
theorem e_x_Mo_next_214 : decode b_Mo_next 214 = .ok (.putfield 165, 3) := by decide +kernel
theorem f_x_Mo_next_69_2 : mblkB b_Mo_next [(69, .aload_n 0, vi 0), (70, .iconst 0, vi 0)] = true := by decide +kernel
theorem e_x_Mo_next_71 : decode b_Mo_next 71 = .ok (.putfield 159, 3) := by decide +kernel
theorem f_x_Mo_next_74_1 : mblkB b_Mo_next [(74, .goto 273, vi 347)] = true := by decide +kernel
theorem f_x_Mo_next_217_2 : mblkB b_Mo_next [(217, .aload_n 0, vi 0), (218, .aload_n 0, vi 0)] = true := by decide +kernel
theorem e_x_Mo_next_219 : decode b_Mo_next 219 = .ok (.getfield 125, 3) := by decide +kernel
theorem e_x_Mo_next_222 : decode b_Mo_next 222 = .ok (.invokevirtual 135, 3) := by decide +kernel
theorem f_x_Mo_next_225_2 : mblkB b_Mo_next [(225, .bipush 48, vi 48), (227, .bipush 57, vi 57)] = true := by decide +kernel
theorem e_x_Mo_next_229 : decode b_Mo_next 229 = .ok (.invokestatic 108, 3) := by decide +kernel
theorem e_x_Mo_next_232 : decode b_Mo_next 232 = .ok (.ifCond .eq 52, 3) := by decide +kernel
theorem f_x_Mo_next_284_2 : mblkB b_Mo_next [(284, .aload_n 0, vi 0), (285, .aload_n 0, vi 0)] = true := by decide +kernel
theorem e_x_Mo_next_286 : decode b_Mo_next 286 = .ok (.getfield 125, 3) := by decide +kernel
theorem f_x_Mo_next_289_1 : mblkB b_Mo_next [(289, .aload_n 0, vi 0)] = true := by decide +kernel
theorem e_x_Mo_next_290 : decode b_Mo_next 290 = .ok (.getfield 128, 3) := by decide +kernel
theorem f_x_Mo_next_293_2 : mblkB b_Mo_next [(293, .isub, vi 0), (294, .iconst 2, vi 2)] = true := by decide +kernel
theorem e_x_Mo_next_295 : decode b_Mo_next 295 = .ok (.if_icmp .le 7, 3) := by decide +kernel
theorem f_x_Mo_next_302_1 : mblkB b_Mo_next [(302, .iconst 0, vi 0)] = true := by decide +kernel
theorem e_x_Mo_next_303 : decode b_Mo_next 303 = .ok (.putfield 155, 3) := by decide +kernel
theorem f_x_Mo_next_306_1 : mblkB b_Mo_next [(306, .goto 41, vi 347)] = true := by decide +kernel
theorem f_x_Mo_next_298_2 : mblkB b_Mo_next [(298, .iconst 1, vi 1), (299, .goto 4, vi 303)] = true := by decide +kernel
theorem f_x_Mo_next_235_1 : mblkB b_Mo_next [(235, .aload_n 0, vi 0)] = true := by decide +kernel
theorem e_x_Mo_next_236 : decode b_Mo_next 236 = .ok (.getfield 125, 3) := by decide +kernel
theorem f_x_Mo_next_239_1 : mblkB b_Mo_next [(239, .aload_n 0, vi 0)] = true := by decide +kernel
theorem e_x_Mo_next_240 : decode b_Mo_next 240 = .ok (.getfield 128, 3) := by decide +kernel
theorem f_x_Mo_next_243_2 : mblkB b_Mo_next [(243, .isub, vi 0), (244, .iconst 2, vi 2)] = true := by decide +kernel
theorem e_x_Mo_next_245 : decode b_Mo_next 245 = .ok (.if_icmp .ge 26, 3) := by decide +kernel
theorem f_x_Mo_next_271_2 : mblkB b_Mo_next [(271, .aload_n 0, vi 0), (272, .dup, vi 0)] = true := by decide +kernel
theorem e_x_Mo_next_273 : decode b_Mo_next 273 = .ok (.getfield 125, 3) := by decide +kernel
theorem f_x_Mo_next_276_2 : mblkB b_Mo_next [(276, .iconst 1, vi 1), (277, .iadd, vi 0)] = true := by decide +kernel
theorem e_x_Mo_next_278 : decode b_Mo_next 278 = .ok (.putfield 125, 3) := by decide +kernel
theorem f_x_Mo_next_281_1 : mblkB b_Mo_next [(281, .goto (-64), vi 217)] = true := by decide +kernel
theorem f_x_Mo_next_248_3 : mblkB b_Mo_next [(248, .aload_n 0, vi 0), (249, .bipush 10, vi 10), (251, .aload_n 0, vi 0)] = true := by decide +kernel
theorem e_x_Mo_next_252 : decode b_Mo_next 252 = .ok (.getfield 165, 3) := by decide +kernel
theorem f_x_Mo_next_255_3 : mblkB b_Mo_next [(255, .imul, vi 0), (256, .aload_n 0, vi 0), (257, .aload_n 0, vi 0)] = true := by decide +kernel
theorem e_x_Mo_next_258 : decode b_Mo_next 258 = .ok (.getfield 125, 3) := by decide +kernel
theorem e_x_Mo_next_261 : decode b_Mo_next 261 = .ok (.invokevirtual 135, 3) := by decide +kernel
theorem f_x_Mo_next_264_3 : mblkB b_Mo_next [(264, .iadd, vi 0), (265, .bipush 48, vi 48), (267, .isub, vi 0)] = true := by decide +kernel
theorem e_x_Mo_next_268 : decode b_Mo_next 268 = .ok (.putfield 165, 3) := by decide +kernel
theorem f_x_Mo_next_88_2 : mblkB b_Mo_next [(88, .aload_n 0, vi 0), (89, .aload_n 0, vi 0)] = true := by decide +kernel
theorem e_x_Mo_next_90 : decode b_Mo_next 90 = .ok (.getfield 125, 3) := by decide +kernel
theorem e_x_Mo_next_93 : decode b_Mo_next 93 = .ok (.invokevirtual 135, 3) := by decide +kernel
theorem f_x_Mo_next_96_2 : mblkB b_Mo_next [(96, .bipush 97, vi 97), (98, .bipush 122, vi 122)] = true := by decide +kernel
theorem e_x_Mo_next_100 : decode b_Mo_next 100 = .ok (.invokestatic 108, 3) := by decide +kernel
theorem e_x_Mo_next_103 : decode b_Mo_next 103 = .ok (.ifCond .eq 16, 3) := by decide +kernel
theorem f_x_Mo_next_119_1 : mblkB b_Mo_next [(119, .aload_n 0, vi 0)] = true := by decide +kernel
theorem e_x_Mo_next_120 : decode b_Mo_next 120 = .ok (.getfield 125, 3) := by decide +kernel
theorem f_x_Mo_next_123_1 : mblkB b_Mo_next [(123, .aload_n 0, vi 0)] = true := by decide +kernel
theorem e_x_Mo_next_124 : decode b_Mo_next 124 = .ok (.getfield 128, 3) := by decide +kernel
theorem f_x_Mo_next_127_2 : mblkB b_Mo_next [(127, .isub, vi 0), (128, .iconst 1, vi 1)] = true := by decide +kernel
theorem e_x_Mo_next_129 : decode b_Mo_next 129 = .ok (.if_icmp .ne 13, 3) := by decide +kernel
theorem f_x_Mo_next_142_4 : mblkB b_Mo_next [(142, .iconst 0, vi 0), (143, .istore_n 2, vi 0), (144, .aload_n 0, vi 0), (145, .iload_n 2, vi 0)] = true := by decide +kernel
theorem e_x_Mo_next_146 : decode b_Mo_next 146 = .ok (.ifCond .eq 7, 3) := by decide +kernel
theorem f_x_Mo_next_153_1 : mblkB b_Mo_next [(153, .iconst 2, vi 2)] = true := by decide +kernel
theorem e_x_Mo_next_154 : decode b_Mo_next 154 = .ok (.putfield 159, 3) := by decide +kernel
theorem f_x_Mo_next_157_2 : mblkB b_Mo_next [(157, .aload_n 0, vi 0), (158, .iload_n 2, vi 0)] = true := by decide +kernel
theorem e_x_Mo_next_159 : decode b_Mo_next 159 = .ok (.ifCond .eq 10, 3) := by decide +kernel
theorem f_x_Mo_next_169_1 : mblkB b_Mo_next [(169, .aload_n 0, vi 0)] = true := by decide +kernel
theorem e_x_Mo_next_170 : decode b_Mo_next 170 = .ok (.invokevirtual 162, 3) := by decide +kernel
theorem e_x_Mo_next_173 : decode b_Mo_next 173 = .ok (.putfield 165, 3) := by decide +kernel
theorem f_x_Mo_next_176_2 : mblkB b_Mo_next [(176, .aload_n 0, vi 0), (177, .aload_n 0, vi 0)] = true := by decide +kernel
theorem e_x_Mo_next_178 : decode b_Mo_next 178 = .ok (.getfield 165, 3) := by decide +kernel
theorem f_x_Mo_next_181_1 : mblkB b_Mo_next [(181, .iconst (-1), vi (-1))] = true := by decide +kernel
theorem e_x_Mo_next_182 : decode b_Mo_next 182 = .ok (.if_icmp .ne 7, 3) := by decide +kernel
theorem f_x_Mo_next_189_1 : mblkB b_Mo_next [(189, .iconst 0, vi 0)] = true := by decide +kernel
theorem e_x_Mo_next_190 : decode b_Mo_next 190 = .ok (.putfield 155, 3) := by decide +kernel
theorem f_x_Mo_next_193_1 : mblkB b_Mo_next [(193, .goto 154, vi 347)] = true := by decide +kernel
theorem f_x_Mo_next_185_2 : mblkB b_Mo_next [(185, .iconst 1, vi 1), (186, .goto 4, vi 190)] = true := by decide +kernel
theorem f_x_Mo_next_132_2 : mblkB b_Mo_next [(132, .iload_n 1, vi 0), (133, .bipush 102, vi 102)] = true := by decide +kernel
theorem e_x_Mo_next_135 : decode b_Mo_next 135 = .ok (.if_icmp .gt 7, 3) := by decide +kernel
theorem f_x_Mo_next_138_2 : mblkB b_Mo_next [(138, .iconst 1, vi 1), (139, .goto 4, vi 143)] = true := by decide +kernel
theorem f_x_Mo_next_143_3 : mblkB b_Mo_next [(143, .istore_n 2, vi 0), (144, .aload_n 0, vi 0), (145, .iload_n 2, vi 0)] = true := by decide +kernel
theorem f_x_Mo_next_149_2 : mblkB b_Mo_next [(149, .iconst 1, vi 1), (150, .goto 4, vi 154)] = true := by decide +kernel
theorem f_x_Mo_next_162_4 : mblkB b_Mo_next [(162, .iload_n 1, vi 0), (163, .bipush 97, vi 97), (165, .isub, vi 0), (166, .goto 7, vi 173)] = true := by decide +kernel
theorem f_x_Mo_next_106_2 : mblkB b_Mo_next [(106, .aload_n 0, vi 0), (107, .dup, vi 0)] = true := by decide +kernel
theorem e_x_Mo_next_108 : decode b_Mo_next 108 = .ok (.getfield 125, 3) := by decide +kernel
theorem f_x_Mo_next_111_2 : mblkB b_Mo_next [(111, .iconst 1, vi 1), (112, .iadd, vi 0)] = true := by decide +kernel
theorem e_x_Mo_next_113 : decode b_Mo_next 113 = .ok (.putfield 125, 3) := by decide +kernel
theorem f_x_Mo_next_116_1 : mblkB b_Mo_next [(116, .goto (-28), vi 88)] = true := by decide +kernel
set_option maxHeartbeats 4000000 in
set_option maxRecDepth 20000 in
theorem x_Mo_next  : ∀ (l : Launch) (D : va_G) (B : Nat) (H0 : Heap) (ad : mAd) (A : mA)  (hS : mStr D ad) (r9 : Int) (A9 : mA), f_Mo_next  A  = some (r9, A9) → mMet l D B H0 ad y_Mo_next b_Mo_next 3 none 6 183 [vr 0 0] A (fun v A' => v = none ∧ A' = A9) := by
  intro l D B H0 ad A   hS r9 A9 h
  refine m_met (by decide) rfl (fun g w0 C Rm Y E => ?_)
  have hd_217 : ∀ (n : Nat) (A : mA)  , f_Mo_next_217  n A  = some (r9, A9) → JM g D ad w0 A 217 [(0, vr 0 0)] [] := by
    intro n
    induction n with
    | zero => intro A   h; cases h
    | succ n ih =>
      intro A   h
      unfold f_Mo_next_217 at h
      refine m_blk 219 [(0, vr 0 0)] [vr 0 0, vr 0 0] C f_x_Mo_next_217_2 rfl ?_
      refine m_geti C e_x_Mo_next_219 fg_Mo_125 rfl (by decide) rfl (A 0 0 23) rfl ?_
      obtain ⟨q1, e2, h⟩ := obd h
      refine m_callV C Rm Y [vi (A 0 0 23)] [] (x_Mo_byteAt l D B H0 ad _ (A 0 0 23) hS _ _ e2) cl_Mo_135 rfl (by decide) rfl rfl e_x_Mo_next_222 rfl rfl rfl ⟨by decide, by decide⟩ ?_
      rintro _ _ ⟨rfl, rfl⟩
      show JM g D ad w0 q1.2 225 [(0, vr 0 0)] [vi q1.1]
      refine m_blk 229 [(0, vr 0 0)] [vi 57, vi 48, vi q1.1] C f_x_Mo_next_225_2 rfl ?_
      obtain ⟨q3, e4, h⟩ := obd h
      refine m_callS C Rm Y [vi q1.1, vi 48, vi 57] [] (x_Mo_in l D B H0 ad _ q1.1 48 57 hS _ _ e4) cl_Mo_108 e_x_Mo_next_229 rfl rfl rfl ⟨by decide, by decide⟩ ?_
      rintro _ _ ⟨rfl, rfl⟩
      show JM g D ad w0 q3.2 232 [(0, vr 0 0)] [vi q3.1]
      obtain ⟨c5, h⟩ := igd h
      refine m_if_eq (tgt := 284) C e_x_Mo_next_232 (by decide) c5 (fun c6 => ?_) (fun c6 => ?_)
      · have h := ifp c6 h
        refine m_blk 286 [(0, vr 0 0)] [vr 0 0, vr 0 0] C f_x_Mo_next_284_2 rfl ?_
        refine m_geti C e_x_Mo_next_286 fg_Mo_125 rfl (by decide) rfl (q3.2 0 0 23) rfl ?_
        refine m_blk 290 [(0, vr 0 0)] [vr 0 0, vi (q3.2 0 0 23), vr 0 0] C f_x_Mo_next_289_1 rfl ?_
        refine m_geti C e_x_Mo_next_290 fg_Mo_128 rfl (by decide) rfl (q3.2 0 0 24) rfl ?_
        refine m_blk 295 [(0, vr 0 0)] [vi 2, vi ((q3.2 0 0 23) - (q3.2 0 0 24)), vr 0 0] C f_x_Mo_next_293_2 rfl ?_
        obtain ⟨c7, h⟩ := igd h
        refine m_icmp_le (tgt := 302) C e_x_Mo_next_295 (by decide) c7 (by decide) (fun c8 => ?_) (fun c8 => ?_)
        · have h := ifp c8 h
          refine m_blk 303 [(0, vr 0 0)] [vi 0, vr 0 0] C f_x_Mo_next_302_1 rfl ?_
          refine m_putz C e_x_Mo_next_303 fp_Mo_155 rfl (by decide) rfl (Or.inl rfl) ?_
          refine m_blk 347 [(0, vr 0 0)] [] C f_x_Mo_next_306_1 rfl ?_
          exact m_vret C Rm E e_x_Mo_next_347 (fin0 h)
        · have h := ifn c8 h
          refine m_blk 303 [(0, vr 0 0)] [vi 1, vr 0 0] C f_x_Mo_next_298_2 rfl ?_
          refine m_putz C e_x_Mo_next_303 fp_Mo_155 rfl (by decide) rfl (Or.inr rfl) ?_
          refine m_blk 347 [(0, vr 0 0)] [] C f_x_Mo_next_306_1 rfl ?_
          exact m_vret C Rm E e_x_Mo_next_347 (fin0 h)
      · have h := ifn c6 h
        refine m_blk 236 [(0, vr 0 0)] [vr 0 0] C f_x_Mo_next_235_1 rfl ?_
        refine m_geti C e_x_Mo_next_236 fg_Mo_125 rfl (by decide) rfl (q3.2 0 0 23) rfl ?_
        refine m_blk 240 [(0, vr 0 0)] [vr 0 0, vi (q3.2 0 0 23)] C f_x_Mo_next_239_1 rfl ?_
        refine m_geti C e_x_Mo_next_240 fg_Mo_128 rfl (by decide) rfl (q3.2 0 0 24) rfl ?_
        refine m_blk 245 [(0, vr 0 0)] [vi 2, vi ((q3.2 0 0 23) - (q3.2 0 0 24))] C f_x_Mo_next_243_2 rfl ?_
        obtain ⟨c9, h⟩ := igd h
        refine m_icmp_ge (tgt := 271) C e_x_Mo_next_245 (by decide) c9 (by decide) (fun c10 => ?_) (fun c10 => ?_)
        · have h := ifp c10 h
          refine m_blk 273 [(0, vr 0 0)] [vr 0 0, vr 0 0] C f_x_Mo_next_271_2 rfl ?_
          refine m_geti C e_x_Mo_next_273 fg_Mo_125 rfl (by decide) rfl (q3.2 0 0 23) rfl ?_
          refine m_blk 278 [(0, vr 0 0)] [vi ((q3.2 0 0 23) + 1), vr 0 0] C f_x_Mo_next_276_2 rfl ?_
          refine m_puti C e_x_Mo_next_278 fp_Mo_125 rfl (by decide) rfl ?_
          refine m_blk 217 [(0, vr 0 0)] [] C f_x_Mo_next_281_1 rfl ?_
          refine m_loc [(0, vr 0 0)] ⟨rfl, trivial⟩ ?_
          exact ih (mu q3.2 0 0 23 ((q3.2 0 0 23) + 1))   h
        · have h := ifn c10 h
          refine m_blk 252 [(0, vr 0 0)] [vr 0 0, vi 10, vr 0 0] C f_x_Mo_next_248_3 rfl ?_
          refine m_geti C e_x_Mo_next_252 fg_Mo_165 rfl (by decide) rfl (q3.2 0 0 26) rfl ?_
          refine m_blk 258 [(0, vr 0 0)] [vr 0 0, vr 0 0, vi (10 * (q3.2 0 0 26)), vr 0 0] C f_x_Mo_next_255_3 rfl ?_
          refine m_geti C e_x_Mo_next_258 fg_Mo_125 rfl (by decide) rfl (q3.2 0 0 23) rfl ?_
          obtain ⟨q11, e12, h⟩ := obd h
          refine m_callV C Rm Y [vi (q3.2 0 0 23)] [vi (10 * (q3.2 0 0 26)), vr 0 0] (x_Mo_byteAt l D B H0 ad _ (q3.2 0 0 23) hS _ _ e12) cl_Mo_135 rfl (by decide) rfl rfl e_x_Mo_next_261 rfl rfl rfl ⟨by decide, by decide⟩ ?_
          rintro _ _ ⟨rfl, rfl⟩
          show JM g D ad w0 q11.2 264 [(0, vr 0 0)] [vi q11.1, vi (10 * (q3.2 0 0 26)), vr 0 0]
          refine m_blk 268 [(0, vr 0 0)] [vi (((10 * (q3.2 0 0 26)) + q11.1) - 48), vr 0 0] C f_x_Mo_next_264_3 rfl ?_
          refine m_puti C e_x_Mo_next_268 fp_Mo_165 rfl (by decide) rfl ?_
          refine m_blk 273 [(0, vr 0 0)] [vr 0 0, vr 0 0] C f_x_Mo_next_271_2 rfl ?_
          refine m_geti C e_x_Mo_next_273 fg_Mo_125 rfl (by decide) rfl (q11.2 0 0 23) rfl ?_
          refine m_blk 278 [(0, vr 0 0)] [vi ((q11.2 0 0 23) + 1), vr 0 0] C f_x_Mo_next_276_2 rfl ?_
          refine m_puti C e_x_Mo_next_278 fp_Mo_125 rfl (by decide) rfl ?_
          refine m_blk 217 [(0, vr 0 0)] [] C f_x_Mo_next_281_1 rfl ?_
          refine m_loc [(0, vr 0 0)] ⟨rfl, trivial⟩ ?_
          exact ih (mu (mu q11.2 0 0 26 (((10 * (q3.2 0 0 26)) + q11.1) - 48)) 0 0 23 ((q11.2 0 0 23) + 1))   h
  have hd_88 : ∀ (n : Nat) (A : mA) (b1 : Int) , f_Mo_next_88  n A b1 = some (r9, A9) → JM g D ad w0 A 88 [(0, vr 0 0), (1, vi b1)] [] := by
    intro n
    induction n with
    | zero => intro A b1  h; cases h
    | succ n ih =>
      intro A b1  h
      unfold f_Mo_next_88 at h
      refine m_blk 90 [(0, vr 0 0), (1, vi b1)] [vr 0 0, vr 0 0] C f_x_Mo_next_88_2 rfl ?_
      refine m_geti C e_x_Mo_next_90 fg_Mo_125 rfl (by decide) rfl (A 0 0 23) rfl ?_
      obtain ⟨q13, e14, h⟩ := obd h
      refine m_callV C Rm Y [vi (A 0 0 23)] [] (x_Mo_byteAt l D B H0 ad _ (A 0 0 23) hS _ _ e14) cl_Mo_135 rfl (by decide) rfl rfl e_x_Mo_next_93 rfl rfl rfl ⟨by decide, by decide⟩ ?_
      rintro _ _ ⟨rfl, rfl⟩
      show JM g D ad w0 q13.2 96 [(0, vr 0 0), (1, vi b1)] [vi q13.1]
      refine m_blk 100 [(0, vr 0 0), (1, vi b1)] [vi 122, vi 97, vi q13.1] C f_x_Mo_next_96_2 rfl ?_
      obtain ⟨q15, e16, h⟩ := obd h
      refine m_callS C Rm Y [vi q13.1, vi 97, vi 122] [] (x_Mo_in l D B H0 ad _ q13.1 97 122 hS _ _ e16) cl_Mo_108 e_x_Mo_next_100 rfl rfl rfl ⟨by decide, by decide⟩ ?_
      rintro _ _ ⟨rfl, rfl⟩
      show JM g D ad w0 q15.2 103 [(0, vr 0 0), (1, vi b1)] [vi q15.1]
      obtain ⟨c17, h⟩ := igd h
      refine m_if_eq (tgt := 119) C e_x_Mo_next_103 (by decide) c17 (fun c18 => ?_) (fun c18 => ?_)
      · have h := ifp c18 h
        refine m_blk 120 [(0, vr 0 0), (1, vi b1)] [vr 0 0] C f_x_Mo_next_119_1 rfl ?_
        refine m_geti C e_x_Mo_next_120 fg_Mo_125 rfl (by decide) rfl (q15.2 0 0 23) rfl ?_
        refine m_blk 124 [(0, vr 0 0), (1, vi b1)] [vr 0 0, vi (q15.2 0 0 23)] C f_x_Mo_next_123_1 rfl ?_
        refine m_geti C e_x_Mo_next_124 fg_Mo_128 rfl (by decide) rfl (q15.2 0 0 24) rfl ?_
        refine m_blk 129 [(0, vr 0 0), (1, vi b1)] [vi 1, vi ((q15.2 0 0 23) - (q15.2 0 0 24))] C f_x_Mo_next_127_2 rfl ?_
        obtain ⟨c19, h⟩ := igd h
        refine m_icmp_ne (tgt := 142) C e_x_Mo_next_129 (by decide) c19 (by decide) (fun c20 => ?_) (fun c20 => ?_)
        · have h := ifn c20 h
          refine m_blk 146 [(2, vi 0), (0, vr 0 0), (1, vi b1)] [vi 0, vr 0 0] C f_x_Mo_next_142_4 rfl ?_
          refine m_if_eq (tgt := 153) C e_x_Mo_next_146 (by decide) (by decide) (fun c21 => ?_) (fun c21 => (by omega : False).elim)
          refine m_blk 154 [(2, vi 0), (0, vr 0 0), (1, vi b1)] [vi 2, vr 0 0] C f_x_Mo_next_153_1 rfl ?_
          refine m_puti C e_x_Mo_next_154 fp_Mo_159 rfl (by decide) rfl ?_
          refine m_blk 159 [(2, vi 0), (0, vr 0 0), (1, vi b1)] [vi 0, vr 0 0] C f_x_Mo_next_157_2 rfl ?_
          refine m_if_eq (tgt := 169) C e_x_Mo_next_159 (by decide) (by decide) (fun c22 => ?_) (fun c22 => (by omega : False).elim)
          refine m_blk 170 [(2, vi 0), (0, vr 0 0), (1, vi b1)] [vr 0 0, vr 0 0] C f_x_Mo_next_169_1 rfl ?_
          obtain ⟨q23, e24, h⟩ := obd h
          refine m_callV C Rm Y [] [vr 0 0] (x_Mo_wordRead l D B H0 ad _  hS _ _ e24) cl_Mo_162 rfl (by decide) rfl rfl e_x_Mo_next_170 rfl rfl rfl ⟨by decide, by decide⟩ ?_
          rintro _ _ ⟨rfl, rfl⟩
          show JM g D ad w0 q23.2 173 [(2, vi 0), (0, vr 0 0), (1, vi b1)] [vi q23.1, vr 0 0]
          refine m_puti C e_x_Mo_next_173 fp_Mo_165 rfl (by decide) rfl ?_
          refine m_blk 178 [(2, vi 0), (0, vr 0 0), (1, vi b1)] [vr 0 0, vr 0 0] C f_x_Mo_next_176_2 rfl ?_
          refine m_geti C e_x_Mo_next_178 fg_Mo_165 rfl (by decide) rfl q23.1 (mu_at q23.2 0 0 26 q23.1) ?_
          refine m_blk 182 [(2, vi 0), (0, vr 0 0), (1, vi b1)] [vi (-1), vi q23.1, vr 0 0] C f_x_Mo_next_181_1 rfl ?_
          obtain ⟨c25, h⟩ := igd h
          refine m_icmp_ne (tgt := 189) C e_x_Mo_next_182 (by decide) c25 (by decide) (fun c26 => ?_) (fun c26 => ?_)
          · have h := ifn c26 h
            refine m_blk 190 [(2, vi 0), (0, vr 0 0), (1, vi b1)] [vi 0, vr 0 0] C f_x_Mo_next_189_1 rfl ?_
            refine m_putz C e_x_Mo_next_190 fp_Mo_155 rfl (by decide) rfl (Or.inl rfl) ?_
            refine m_blk 347 [(2, vi 0), (0, vr 0 0), (1, vi b1)] [] C f_x_Mo_next_193_1 rfl ?_
            exact m_vret C Rm E e_x_Mo_next_347 (fin0 h)
          · have h := ifp c26 h
            refine m_blk 190 [(2, vi 0), (0, vr 0 0), (1, vi b1)] [vi 1, vr 0 0] C f_x_Mo_next_185_2 rfl ?_
            refine m_putz C e_x_Mo_next_190 fp_Mo_155 rfl (by decide) rfl (Or.inr rfl) ?_
            refine m_blk 347 [(2, vi 0), (0, vr 0 0), (1, vi b1)] [] C f_x_Mo_next_193_1 rfl ?_
            exact m_vret C Rm E e_x_Mo_next_347 (fin0 h)
        · have h := ifp c20 h
          refine m_blk 135 [(0, vr 0 0), (1, vi b1)] [vi 102, vi b1] C f_x_Mo_next_132_2 rfl ?_
          obtain ⟨c27, h⟩ := igd h
          refine m_icmp_gt (tgt := 142) C e_x_Mo_next_135 (by decide) c27 (by decide) (fun c28 => ?_) (fun c28 => ?_)
          · have h := ifp c28 h
            refine m_blk 146 [(2, vi 0), (0, vr 0 0), (1, vi b1)] [vi 0, vr 0 0] C f_x_Mo_next_142_4 rfl ?_
            refine m_if_eq (tgt := 153) C e_x_Mo_next_146 (by decide) (by decide) (fun c29 => ?_) (fun c29 => (by omega : False).elim)
            refine m_blk 154 [(2, vi 0), (0, vr 0 0), (1, vi b1)] [vi 2, vr 0 0] C f_x_Mo_next_153_1 rfl ?_
            refine m_puti C e_x_Mo_next_154 fp_Mo_159 rfl (by decide) rfl ?_
            refine m_blk 159 [(2, vi 0), (0, vr 0 0), (1, vi b1)] [vi 0, vr 0 0] C f_x_Mo_next_157_2 rfl ?_
            refine m_if_eq (tgt := 169) C e_x_Mo_next_159 (by decide) (by decide) (fun c30 => ?_) (fun c30 => (by omega : False).elim)
            refine m_blk 170 [(2, vi 0), (0, vr 0 0), (1, vi b1)] [vr 0 0, vr 0 0] C f_x_Mo_next_169_1 rfl ?_
            obtain ⟨q31, e32, h⟩ := obd h
            refine m_callV C Rm Y [] [vr 0 0] (x_Mo_wordRead l D B H0 ad _  hS _ _ e32) cl_Mo_162 rfl (by decide) rfl rfl e_x_Mo_next_170 rfl rfl rfl ⟨by decide, by decide⟩ ?_
            rintro _ _ ⟨rfl, rfl⟩
            show JM g D ad w0 q31.2 173 [(2, vi 0), (0, vr 0 0), (1, vi b1)] [vi q31.1, vr 0 0]
            refine m_puti C e_x_Mo_next_173 fp_Mo_165 rfl (by decide) rfl ?_
            refine m_blk 178 [(2, vi 0), (0, vr 0 0), (1, vi b1)] [vr 0 0, vr 0 0] C f_x_Mo_next_176_2 rfl ?_
            refine m_geti C e_x_Mo_next_178 fg_Mo_165 rfl (by decide) rfl q31.1 (mu_at q31.2 0 0 26 q31.1) ?_
            refine m_blk 182 [(2, vi 0), (0, vr 0 0), (1, vi b1)] [vi (-1), vi q31.1, vr 0 0] C f_x_Mo_next_181_1 rfl ?_
            obtain ⟨c33, h⟩ := igd h
            refine m_icmp_ne (tgt := 189) C e_x_Mo_next_182 (by decide) c33 (by decide) (fun c34 => ?_) (fun c34 => ?_)
            · have h := ifn c34 h
              refine m_blk 190 [(2, vi 0), (0, vr 0 0), (1, vi b1)] [vi 0, vr 0 0] C f_x_Mo_next_189_1 rfl ?_
              refine m_putz C e_x_Mo_next_190 fp_Mo_155 rfl (by decide) rfl (Or.inl rfl) ?_
              refine m_blk 347 [(2, vi 0), (0, vr 0 0), (1, vi b1)] [] C f_x_Mo_next_193_1 rfl ?_
              exact m_vret C Rm E e_x_Mo_next_347 (fin0 h)
            · have h := ifp c34 h
              refine m_blk 190 [(2, vi 0), (0, vr 0 0), (1, vi b1)] [vi 1, vr 0 0] C f_x_Mo_next_185_2 rfl ?_
              refine m_putz C e_x_Mo_next_190 fp_Mo_155 rfl (by decide) rfl (Or.inr rfl) ?_
              refine m_blk 347 [(2, vi 0), (0, vr 0 0), (1, vi b1)] [] C f_x_Mo_next_193_1 rfl ?_
              exact m_vret C Rm E e_x_Mo_next_347 (fin0 h)
          · have h := ifn c28 h
            refine m_blk 143 [(0, vr 0 0), (1, vi b1)] [vi 1] C f_x_Mo_next_138_2 rfl ?_
            refine m_blk 146 [(2, vi 1), (0, vr 0 0), (1, vi b1)] [vi 1, vr 0 0] C f_x_Mo_next_143_3 rfl ?_
            refine m_if_eq (tgt := 153) C e_x_Mo_next_146 (by decide) (by decide) (fun c35 => (by omega : False).elim) (fun c35 => ?_)
            refine m_blk 154 [(2, vi 1), (0, vr 0 0), (1, vi b1)] [vi 1, vr 0 0] C f_x_Mo_next_149_2 rfl ?_
            refine m_puti C e_x_Mo_next_154 fp_Mo_159 rfl (by decide) rfl ?_
            refine m_blk 159 [(2, vi 1), (0, vr 0 0), (1, vi b1)] [vi 1, vr 0 0] C f_x_Mo_next_157_2 rfl ?_
            refine m_if_eq (tgt := 169) C e_x_Mo_next_159 (by decide) (by decide) (fun c36 => (by omega : False).elim) (fun c36 => ?_)
            refine m_blk 173 [(2, vi 1), (0, vr 0 0), (1, vi b1)] [vi (b1 - 97), vr 0 0] C f_x_Mo_next_162_4 rfl ?_
            refine m_puti C e_x_Mo_next_173 fp_Mo_165 rfl (by decide) rfl ?_
            refine m_blk 178 [(2, vi 1), (0, vr 0 0), (1, vi b1)] [vr 0 0, vr 0 0] C f_x_Mo_next_176_2 rfl ?_
            refine m_geti C e_x_Mo_next_178 fg_Mo_165 rfl (by decide) rfl (b1 - 97) (mu_at (mu q15.2 0 0 25 1) 0 0 26 (b1 - 97)) ?_
            refine m_blk 182 [(2, vi 1), (0, vr 0 0), (1, vi b1)] [vi (-1), vi (b1 - 97), vr 0 0] C f_x_Mo_next_181_1 rfl ?_
            obtain ⟨c37, h⟩ := igd h
            refine m_icmp_ne (tgt := 189) C e_x_Mo_next_182 (by decide) c37 (by decide) (fun c38 => ?_) (fun c38 => ?_)
            · have h := ifn c38 h
              refine m_blk 190 [(2, vi 1), (0, vr 0 0), (1, vi b1)] [vi 0, vr 0 0] C f_x_Mo_next_189_1 rfl ?_
              refine m_putz C e_x_Mo_next_190 fp_Mo_155 rfl (by decide) rfl (Or.inl rfl) ?_
              refine m_blk 347 [(2, vi 1), (0, vr 0 0), (1, vi b1)] [] C f_x_Mo_next_193_1 rfl ?_
              exact m_vret C Rm E e_x_Mo_next_347 (fin0 h)
            · have h := ifp c38 h
              refine m_blk 190 [(2, vi 1), (0, vr 0 0), (1, vi b1)] [vi 1, vr 0 0] C f_x_Mo_next_185_2 rfl ?_
              refine m_putz C e_x_Mo_next_190 fp_Mo_155 rfl (by decide) rfl (Or.inr rfl) ?_
              refine m_blk 347 [(2, vi 1), (0, vr 0 0), (1, vi b1)] [] C f_x_Mo_next_193_1 rfl ?_
              exact m_vret C Rm E e_x_Mo_next_347 (fin0 h)
      · have h := ifn c18 h
        refine m_blk 108 [(0, vr 0 0), (1, vi b1)] [vr 0 0, vr 0 0] C f_x_Mo_next_106_2 rfl ?_
        refine m_geti C e_x_Mo_next_108 fg_Mo_125 rfl (by decide) rfl (q15.2 0 0 23) rfl ?_
        refine m_blk 113 [(0, vr 0 0), (1, vi b1)] [vi ((q15.2 0 0 23) + 1), vr 0 0] C f_x_Mo_next_111_2 rfl ?_
        refine m_puti C e_x_Mo_next_113 fp_Mo_125 rfl (by decide) rfl ?_
        refine m_blk 88 [(0, vr 0 0), (1, vi b1)] [] C f_x_Mo_next_116_1 rfl ?_
        refine m_loc [(0, vr 0 0), (1, vi b1)] ⟨rfl, rfl, trivial⟩ ?_
        exact ih (mu q15.2 0 0 23 ((q15.2 0 0 23) + 1)) b1  h
  have hd_8 : ∀ (n : Nat) (A : mA)  , f_Mo_next_8  n A  = some (r9, A9) → JM g D ad w0 A 8 [(0, vr 0 0)] [] := by
    intro n
    induction n with
    | zero => intro A   h; cases h
    | succ n ih =>
      intro A   h
      unfold f_Mo_next_8 at h
      refine m_blk 10 [(0, vr 0 0)] [vr 0 0, vr 0 0] C f_x_Mo_next_8_2 rfl ?_
      refine m_geti C e_x_Mo_next_10 fg_Mo_125 rfl (by decide) rfl (A 0 0 23) rfl ?_
      obtain ⟨q39, e40, h⟩ := obd h
      refine m_callV C Rm Y [vi (A 0 0 23)] [] (x_Mo_byteAt l D B H0 ad _ (A 0 0 23) hS _ _ e40) cl_Mo_135 rfl (by decide) rfl rfl e_x_Mo_next_13 rfl rfl rfl ⟨by decide, by decide⟩ ?_
      rintro _ _ ⟨rfl, rfl⟩
      show JM g D ad w0 q39.2 16 [(0, vr 0 0)] [vi q39.1]
      refine m_blk 18 [(0, vr 0 0)] [vi 32, vi q39.1] C f_x_Mo_next_16_1 rfl ?_
      obtain ⟨c41, h⟩ := igd h
      refine m_icmp_eq (tgt := 34) C e_x_Mo_next_18 (by decide) c41 (by decide) (fun c42 => ?_) (fun c42 => ?_)
      · have h := ifp c42 h
        refine m_blk 36 [(0, vr 0 0)] [vr 0 0, vr 0 0] C f_x_Mo_next_34_2 rfl ?_
        refine m_geti C e_x_Mo_next_36 fg_Mo_125 rfl (by decide) rfl (q39.2 0 0 23) rfl ?_
        refine m_blk 41 [(0, vr 0 0)] [vi ((q39.2 0 0 23) + 1), vr 0 0] C f_x_Mo_next_39_2 rfl ?_
        refine m_puti C e_x_Mo_next_41 fp_Mo_125 rfl (by decide) rfl ?_
        refine m_blk 8 [(0, vr 0 0)] [] C f_x_Mo_next_44_1 rfl ?_
        refine m_loc [(0, vr 0 0)] ⟨rfl, trivial⟩ ?_
        exact ih (mu q39.2 0 0 23 ((q39.2 0 0 23) + 1))   h
      · have h := ifn c42 h
        refine m_blk 23 [(0, vr 0 0)] [vr 0 0, vr 0 0] C f_x_Mo_next_21_2 rfl ?_
        refine m_geti C e_x_Mo_next_23 fg_Mo_125 rfl (by decide) rfl (q39.2 0 0 23) rfl ?_
        obtain ⟨q43, e44, h⟩ := obd h
        refine m_callV C Rm Y [vi (q39.2 0 0 23)] [] (x_Mo_byteAt l D B H0 ad _ (q39.2 0 0 23) hS _ _ e44) cl_Mo_135 rfl (by decide) rfl rfl e_x_Mo_next_26 rfl rfl rfl ⟨by decide, by decide⟩ ?_
        rintro _ _ ⟨rfl, rfl⟩
        show JM g D ad w0 q43.2 29 [(0, vr 0 0)] [vi q43.1]
        refine m_blk 31 [(0, vr 0 0)] [vi 10, vi q43.1] C f_x_Mo_next_29_1 rfl ?_
        obtain ⟨c45, h⟩ := igd h
        refine m_icmp_ne (tgt := 47) C e_x_Mo_next_31 (by decide) c45 (by decide) (fun c46 => ?_) (fun c46 => ?_)
        · have h := ifn c46 h
          refine m_blk 49 [(0, vr 0 0)] [vr 0 0, vr 0 0] C f_x_Mo_next_47_2 rfl ?_
          refine m_geti C e_x_Mo_next_49 fg_Mo_125 rfl (by decide) rfl (q43.2 0 0 23) rfl ?_
          refine m_puti C e_x_Mo_next_52 fp_Mo_128 rfl (by decide) rfl ?_
          refine m_blk 57 [(0, vr 0 0)] [vr 0 0, vr 0 0] C f_x_Mo_next_55_2 rfl ?_
          refine m_geti C e_x_Mo_next_57 fg_Mo_125 rfl (by decide) rfl (q43.2 0 0 23) rfl ?_
          obtain ⟨q47, e48, h⟩ := obd h
          refine m_callV C Rm Y [vi (q43.2 0 0 23)] [] (x_Mo_byteAt l D B H0 ad _ (q43.2 0 0 23) hS _ _ e48) cl_Mo_135 rfl (by decide) rfl rfl e_x_Mo_next_60 rfl rfl rfl ⟨by decide, by decide⟩ ?_
          rintro _ _ ⟨rfl, rfl⟩
          show JM g D ad w0 q47.2 63 [(0, vr 0 0)] [vi q47.1]
          refine m_blk 66 [(1, vi q47.1), (0, vr 0 0)] [vi (-1), vi q47.1] C f_x_Mo_next_63_3 rfl ?_
          obtain ⟨c49, h⟩ := igd h
          refine m_icmp_ne (tgt := 77) C e_x_Mo_next_66 (by decide) c49 (by decide) (fun c50 => ?_) (fun c50 => ?_)
          · have h := ifn c50 h
            refine m_blk 82 [(1, vi q47.1), (0, vr 0 0)] [vi 122, vi 97, vi q47.1] C f_x_Mo_next_77_3 rfl ?_
            obtain ⟨q51, e52, h⟩ := obd h
            refine m_callS C Rm Y [vi q47.1, vi 97, vi 122] [] (x_Mo_in l D B H0 ad _ q47.1 97 122 hS _ _ e52) cl_Mo_108 e_x_Mo_next_82 rfl rfl rfl ⟨by decide, by decide⟩ ?_
            rintro _ _ ⟨rfl, rfl⟩
            show JM g D ad w0 q51.2 85 [(1, vi q47.1), (0, vr 0 0)] [vi q51.1]
            obtain ⟨c53, h⟩ := igd h
            refine m_if_eq (tgt := 196) C e_x_Mo_next_85 (by decide) c53 (fun c54 => ?_) (fun c54 => ?_)
            · have h := ifp c54 h
              refine m_blk 201 [(1, vi q47.1), (0, vr 0 0)] [vi 57, vi 48, vi q47.1] C f_x_Mo_next_196_3 rfl ?_
              obtain ⟨q55, e56, h⟩ := obd h
              refine m_callS C Rm Y [vi q47.1, vi 48, vi 57] [] (x_Mo_in l D B H0 ad _ q47.1 48 57 hS _ _ e56) cl_Mo_108 e_x_Mo_next_201 rfl rfl rfl ⟨by decide, by decide⟩ ?_
              rintro _ _ ⟨rfl, rfl⟩
              show JM g D ad w0 q55.2 204 [(1, vi q47.1), (0, vr 0 0)] [vi q55.1]
              obtain ⟨c57, h⟩ := igd h
              refine m_if_eq (tgt := 309) C e_x_Mo_next_204 (by decide) c57 (fun c58 => ?_) (fun c58 => ?_)
              · have h := ifp c58 h
                refine m_blk 311 [(1, vi q47.1), (0, vr 0 0)] [vi 4, vr 0 0] C f_x_Mo_next_309_2 rfl ?_
                refine m_puti C e_x_Mo_next_311 fp_Mo_159 rfl (by decide) rfl ?_
                refine m_blk 316 [(1, vi q47.1), (0, vr 0 0)] [vi q47.1, vr 0 0] C f_x_Mo_next_314_2 rfl ?_
                refine m_puti C e_x_Mo_next_316 fp_Mo_165 rfl (by decide) rfl ?_
                refine m_blk 321 [(1, vi q47.1), (0, vr 0 0)] [vr 0 0, vr 0 0] C f_x_Mo_next_319_2 rfl ?_
                refine m_geti C e_x_Mo_next_321 fg_Mo_125 rfl (by decide) rfl (q55.2 0 0 23) rfl ?_
                refine m_blk 326 [(1, vi q47.1), (0, vr 0 0)] [vi ((q55.2 0 0 23) + 1), vr 0 0] C f_x_Mo_next_324_2 rfl ?_
                refine m_puti C e_x_Mo_next_326 fp_Mo_125 rfl (by decide) rfl ?_
                refine m_blk 330 [(1, vi q47.1), (0, vr 0 0)] [vr 0 0] C f_x_Mo_next_329_1 rfl ?_
                refine m_ldcS (i := 12) C hS (by decide) rfl e_x_Mo_next_330 ?_
                refine m_blk 333 [(1, vi q47.1), (0, vr 0 0)] [vi q47.1, vr 90 12, vr 0 0] C f_x_Mo_next_332_1 rfl ?_
                obtain ⟨c59, h⟩ := igd h
                refine m_indexX C Rm Y hS [vr 0 0] (by decide) cl_Mo_170 c59 e_x_Mo_next_333 rfl ⟨by decide, by decide⟩ ?_
                obtain ⟨c60, h⟩ := igd h
                refine m_if_ge (tgt := 343) C e_x_Mo_next_336 (by decide) c60 (fun c61 => ?_) (fun c61 => ?_)
                · have h := ifp c61 h
                  refine m_blk 344 [(1, vi q47.1), (0, vr 0 0)] [vi 0, vr 0 0] C f_x_Mo_next_343_1 rfl ?_
                  refine m_putz C e_x_Mo_next_344 fp_Mo_155 rfl (by decide) rfl (Or.inl rfl) ?_
                  exact m_vret C Rm E e_x_Mo_next_347 (fin0 h)
                · have h := ifn c61 h
                  refine m_blk 344 [(1, vi q47.1), (0, vr 0 0)] [vi 1, vr 0 0] C f_x_Mo_next_339_2 rfl ?_
                  refine m_putz C e_x_Mo_next_344 fp_Mo_155 rfl (by decide) rfl (Or.inr rfl) ?_
                  exact m_vret C Rm E e_x_Mo_next_347 (fin0 h)
              · have h := ifn c58 h
                refine m_blk 209 [(1, vi q47.1), (0, vr 0 0)] [vi 3, vr 0 0] C f_x_Mo_next_207_2 rfl ?_
                refine m_puti C e_x_Mo_next_209 fp_Mo_159 rfl (by decide) rfl ?_
                refine m_blk 214 [(1, vi q47.1), (0, vr 0 0)] [vi 0, vr 0 0] C f_x_Mo_next_212_2 rfl ?_
                refine m_puti C e_x_Mo_next_214 fp_Mo_165 rfl (by decide) rfl ?_
                refine m_loc [(0, vr 0 0)] ⟨rfl, trivial⟩ ?_
                exact hd_217 _ (mu (mu q55.2 0 0 25 3) 0 0 26 0)   h
            · have h := ifn c54 h
              refine m_loc [(0, vr 0 0), (1, vi q47.1)] ⟨rfl, rfl, trivial⟩ ?_
              exact hd_88 _ q51.2 q47.1  h
          · have h := ifp c50 h
            refine m_blk 71 [(1, vi q47.1), (0, vr 0 0)] [vi 0, vr 0 0] C f_x_Mo_next_69_2 rfl ?_
            refine m_puti C e_x_Mo_next_71 fp_Mo_159 rfl (by decide) rfl ?_
            refine m_blk 347 [(1, vi q47.1), (0, vr 0 0)] [] C f_x_Mo_next_74_1 rfl ?_
            exact m_vret C Rm E e_x_Mo_next_347 (fin0 h)
        · have h := ifp c46 h
          refine m_blk 36 [(0, vr 0 0)] [vr 0 0, vr 0 0] C f_x_Mo_next_34_2 rfl ?_
          refine m_geti C e_x_Mo_next_36 fg_Mo_125 rfl (by decide) rfl (q43.2 0 0 23) rfl ?_
          refine m_blk 41 [(0, vr 0 0)] [vi ((q43.2 0 0 23) + 1), vr 0 0] C f_x_Mo_next_39_2 rfl ?_
          refine m_puti C e_x_Mo_next_41 fp_Mo_125 rfl (by decide) rfl ?_
          refine m_blk 8 [(0, vr 0 0)] [] C f_x_Mo_next_44_1 rfl ?_
          refine m_loc [(0, vr 0 0)] ⟨rfl, trivial⟩ ?_
          exact ih (mu q43.2 0 0 23 ((q43.2 0 0 23) + 1))   h
  show JM g D ad w0 A 0 [(0, vr 0 0)] []
  unfold f_Mo_next at h
  refine m_blk 1 [(0, vr 0 0)] [vr 0 0] C f_x_Mo_next_0_1 rfl ?_
  refine m_geti C e_x_Mo_next_1 fg_Mo_155 rfl (by decide) rfl (A 0 0 31) rfl ?_
  obtain ⟨c62, h⟩ := igd h
  refine m_if_eq (tgt := 8) C e_x_Mo_next_4 (by decide) c62 (fun c63 => ?_) (fun c63 => ?_)
  · have h := ifp c63 h
    refine m_loc [(0, vr 0 0)] ⟨rfl, trivial⟩ ?_
    exact hd_8 _ A   h
  · have h := ifn c63 h
    exact m_vret C Rm E e_x_Mo_next_7 (fin0 h)

def f_Mo_need (A : mA) (a0 : Int) : Option (Int × mA) := (Option.bind (f_Mo_isSign A a0) (fun q1 => (if g32 q1.1 then (if q1.1 = 0 then (some (0, (mu q1.2 0 0 31 1))) else (Option.bind (f_Mo_next q1.2 ) (fun q5 => (some (0, q5.2))))) else none)))
theorem f_x_Mo_need_0_2 : mblkB b_Mo_need [(0, .aload_n 0, vi 0), (1, .iload_n 1, vi 0)] = true := by decide +kernel
theorem e_x_Mo_need_2 : decode b_Mo_need 2 = .ok (.invokevirtual 173, 3) := by decide +kernel
theorem e_x_Mo_need_5 : decode b_Mo_need 5 = .ok (.ifCond .eq 10, 3) := by decide +kernel
theorem f_x_Mo_need_15_2 : mblkB b_Mo_need [(15, .aload_n 0, vi 0), (16, .iconst 1, vi 1)] = true := by decide +kernel
theorem e_x_Mo_need_17 : decode b_Mo_need 17 = .ok (.putfield 155, 3) := by decide +kernel
theorem e_x_Mo_need_20 : decode b_Mo_need 20 = .ok (.return_, 1) := by decide +kernel
theorem f_x_Mo_need_8_1 : mblkB b_Mo_need [(8, .aload_n 0, vi 0)] = true := by decide +kernel
theorem e_x_Mo_need_9 : decode b_Mo_need 9 = .ok (.invokevirtual 176, 3) := by decide +kernel
theorem f_x_Mo_need_12_1 : mblkB b_Mo_need [(12, .goto 8, vi 20)] = true := by decide +kernel
set_option maxHeartbeats 4000000 in
set_option maxRecDepth 20000 in
theorem x_Mo_need  : ∀ (l : Launch) (D : va_G) (B : Nat) (H0 : Heap) (ad : mAd) (A : mA) (a0 : Int) (hS : mStr D ad) (r9 : Int) (A9 : mA), f_Mo_need  A a0 = some (r9, A9) → mMet l D B H0 ad y_Mo_need b_Mo_need 2 none 7 205 [vr 0 0, vi a0] A (fun v A' => v = none ∧ A' = A9) := by
  intro l D B H0 ad A a0  hS r9 A9 h
  refine m_met (by decide) rfl (fun g w0 C Rm Y E => ?_)
  show JM g D ad w0 A 0 [(0, vr 0 0), (1, vi a0)] []
  unfold f_Mo_need at h
  refine m_blk 2 [(0, vr 0 0), (1, vi a0)] [vi a0, vr 0 0] C f_x_Mo_need_0_2 rfl ?_
  obtain ⟨q1, e2, h⟩ := obd h
  refine m_callV C Rm Y [vi a0] [] (x_Mo_isSign l D B H0 ad _ a0 hS _ _ e2) cl_Mo_173 rfl (by decide) rfl rfl e_x_Mo_need_2 rfl rfl rfl ⟨by decide, by decide⟩ ?_
  rintro _ _ ⟨rfl, rfl⟩
  show JM g D ad w0 q1.2 5 [(0, vr 0 0), (1, vi a0)] [vi q1.1]
  obtain ⟨c3, h⟩ := igd h
  refine m_if_eq (tgt := 15) C e_x_Mo_need_5 (by decide) c3 (fun c4 => ?_) (fun c4 => ?_)
  · have h := ifp c4 h
    refine m_blk 17 [(0, vr 0 0), (1, vi a0)] [vi 1, vr 0 0] C f_x_Mo_need_15_2 rfl ?_
    refine m_putz C e_x_Mo_need_17 fp_Mo_155 rfl (by decide) rfl (Or.inr rfl) ?_
    exact m_vret C Rm E e_x_Mo_need_20 (fin0 h)
  · have h := ifn c4 h
    refine m_blk 9 [(0, vr 0 0), (1, vi a0)] [vr 0 0] C f_x_Mo_need_8_1 rfl ?_
    obtain ⟨q5, e6, h⟩ := obd h
    refine m_callV C Rm Y [] [] (x_Mo_next l D B H0 ad _  hS _ _ e6) cl_Mo_176 rfl (by decide) rfl rfl e_x_Mo_need_9 rfl rfl rfl ⟨by decide, by decide⟩ ?_
    rintro _ _ ⟨rfl, rfl⟩
    show JM g D ad w0 q5.2 12 [(0, vr 0 0), (1, vi a0)] []
    refine m_blk 20 [(0, vr 0 0), (1, vi a0)] [] C f_x_Mo_need_12_1 rfl ?_
    exact m_vret C Rm E e_x_Mo_need_20 (fin0 h)

def f_Mo_takes (A : mA) (a0 : Int) (a1 : Int) (a2 : Int) : Option (Int × mA) := (if g32 (A 0 0 31) then (if (A 0 0 31) = 0 then (if g32 (A 0 0 25) then if g32 a0 then (if (A 0 0 25) = a0 then (Option.bind (f_Mo_in A (A 0 0 26) a1 a2) (fun q6 => (if g32 q6.1 then (if q6.1 = 0 then (some (0, (mu q6.2 0 0 31 1))) else (Option.bind (f_Mo_next q6.2 ) (fun q10 => (some ((q6.2 0 0 26), q10.2))))) else none))) else (some (0, (mu A 0 0 31 1)))) else none else none) else (some (0, (mu A 0 0 31 1)))) else none)
theorem f_x_Mo_takes_0_1 : mblkB b_Mo_takes [(0, .aload_n 0, vi 0)] = true := by decide +kernel
theorem e_x_Mo_takes_1 : decode b_Mo_takes 1 = .ok (.getfield 155, 3) := by decide +kernel
theorem e_x_Mo_takes_4 : decode b_Mo_takes 4 = .ok (.ifCond .ne 23, 3) := by decide +kernel
theorem f_x_Mo_takes_27_2 : mblkB b_Mo_takes [(27, .aload_n 0, vi 0), (28, .iconst 1, vi 1)] = true := by decide +kernel
theorem e_x_Mo_takes_29 : decode b_Mo_takes 29 = .ok (.putfield 155, 3) := by decide +kernel
theorem f_x_Mo_takes_32_1 : mblkB b_Mo_takes [(32, .iconst 0, vi 0)] = true := by decide +kernel
theorem e_x_Mo_takes_33 : decode b_Mo_takes 33 = .ok (.ireturn, 1) := by decide +kernel
theorem f_x_Mo_takes_7_1 : mblkB b_Mo_takes [(7, .aload_n 0, vi 0)] = true := by decide +kernel
theorem e_x_Mo_takes_8 : decode b_Mo_takes 8 = .ok (.getfield 159, 3) := by decide +kernel
theorem f_x_Mo_takes_11_1 : mblkB b_Mo_takes [(11, .iload_n 1, vi 0)] = true := by decide +kernel
theorem e_x_Mo_takes_12 : decode b_Mo_takes 12 = .ok (.if_icmp .ne 15, 3) := by decide +kernel
theorem f_x_Mo_takes_15_1 : mblkB b_Mo_takes [(15, .aload_n 0, vi 0)] = true := by decide +kernel
theorem e_x_Mo_takes_16 : decode b_Mo_takes 16 = .ok (.getfield 165, 3) := by decide +kernel
theorem f_x_Mo_takes_19_2 : mblkB b_Mo_takes [(19, .iload_n 2, vi 0), (20, .iload_n 3, vi 0)] = true := by decide +kernel
theorem e_x_Mo_takes_21 : decode b_Mo_takes 21 = .ok (.invokestatic 108, 3) := by decide +kernel
theorem e_x_Mo_takes_24 : decode b_Mo_takes 24 = .ok (.ifCond .ne 10, 3) := by decide +kernel
theorem f_x_Mo_takes_34_1 : mblkB b_Mo_takes [(34, .aload_n 0, vi 0)] = true := by decide +kernel
theorem e_x_Mo_takes_35 : decode b_Mo_takes 35 = .ok (.getfield 165, 3) := by decide +kernel
theorem f_x_Mo_takes_38_2 : mblkB b_Mo_takes [(38, .istore 4, vi 0), (40, .aload_n 0, vi 0)] = true := by decide +kernel
theorem e_x_Mo_takes_41 : decode b_Mo_takes 41 = .ok (.invokevirtual 176, 3) := by decide +kernel
theorem f_x_Mo_takes_44_1 : mblkB b_Mo_takes [(44, .iload 4, vi 0)] = true := by decide +kernel
theorem e_x_Mo_takes_46 : decode b_Mo_takes 46 = .ok (.ireturn, 1) := by decide +kernel
set_option maxHeartbeats 4000000 in
set_option maxRecDepth 20000 in
theorem x_Mo_takes  : ∀ (l : Launch) (D : va_G) (B : Nat) (H0 : Heap) (ad : mAd) (A : mA) (a0 : Int) (a1 : Int) (a2 : Int) (hS : mStr D ad) (r9 : Int) (A9 : mA), f_Mo_takes  A a0 a1 a2 = some (r9, A9) → mMet l D B H0 ad y_Mo_takes b_Mo_takes 5 (some .int) 7 205 [vr 0 0, vi a0, vi a1, vi a2] A (fun v A' => v = some (vi r9) ∧ A' = A9) := by
  intro l D B H0 ad A a0 a1 a2  hS r9 A9 h
  refine m_met (by decide) rfl (fun g w0 C Rm Y E => ?_)
  show JM g D ad w0 A 0 [(0, vr 0 0), (1, vi a0), (2, vi a1), (3, vi a2)] []
  unfold f_Mo_takes at h
  refine m_blk 1 [(0, vr 0 0), (1, vi a0), (2, vi a1), (3, vi a2)] [vr 0 0] C f_x_Mo_takes_0_1 rfl ?_
  refine m_geti C e_x_Mo_takes_1 fg_Mo_155 rfl (by decide) rfl (A 0 0 31) rfl ?_
  obtain ⟨c1, h⟩ := igd h
  refine m_if_ne (tgt := 27) C e_x_Mo_takes_4 (by decide) c1 (fun c2 => ?_) (fun c2 => ?_)
  · have h := ifn c2 h
    refine m_blk 29 [(0, vr 0 0), (1, vi a0), (2, vi a1), (3, vi a2)] [vi 1, vr 0 0] C f_x_Mo_takes_27_2 rfl ?_
    refine m_putz C e_x_Mo_takes_29 fp_Mo_155 rfl (by decide) rfl (Or.inr rfl) ?_
    refine m_blk 33 [(0, vr 0 0), (1, vi a0), (2, vi a1), (3, vi a2)] [vi 0] C f_x_Mo_takes_32_1 rfl ?_
    exact m_iret C Rm E e_x_Mo_takes_33 (fin1 h)
  · have h := ifp c2 h
    refine m_blk 8 [(0, vr 0 0), (1, vi a0), (2, vi a1), (3, vi a2)] [vr 0 0] C f_x_Mo_takes_7_1 rfl ?_
    refine m_geti C e_x_Mo_takes_8 fg_Mo_159 rfl (by decide) rfl (A 0 0 25) rfl ?_
    refine m_blk 12 [(0, vr 0 0), (1, vi a0), (2, vi a1), (3, vi a2)] [vi a0, vi (A 0 0 25)] C f_x_Mo_takes_11_1 rfl ?_
    obtain ⟨c3, h⟩ := igd h
    obtain ⟨c4, h⟩ := igd h
    refine m_icmp_ne (tgt := 27) C e_x_Mo_takes_12 (by decide) c3 c4 (fun c5 => ?_) (fun c5 => ?_)
    · have h := ifn c5 h
      refine m_blk 29 [(0, vr 0 0), (1, vi a0), (2, vi a1), (3, vi a2)] [vi 1, vr 0 0] C f_x_Mo_takes_27_2 rfl ?_
      refine m_putz C e_x_Mo_takes_29 fp_Mo_155 rfl (by decide) rfl (Or.inr rfl) ?_
      refine m_blk 33 [(0, vr 0 0), (1, vi a0), (2, vi a1), (3, vi a2)] [vi 0] C f_x_Mo_takes_32_1 rfl ?_
      exact m_iret C Rm E e_x_Mo_takes_33 (fin1 h)
    · have h := ifp c5 h
      refine m_blk 16 [(0, vr 0 0), (1, vi a0), (2, vi a1), (3, vi a2)] [vr 0 0] C f_x_Mo_takes_15_1 rfl ?_
      refine m_geti C e_x_Mo_takes_16 fg_Mo_165 rfl (by decide) rfl (A 0 0 26) rfl ?_
      refine m_blk 21 [(0, vr 0 0), (1, vi a0), (2, vi a1), (3, vi a2)] [vi a2, vi a1, vi (A 0 0 26)] C f_x_Mo_takes_19_2 rfl ?_
      obtain ⟨q6, e7, h⟩ := obd h
      refine m_callS C Rm Y [vi (A 0 0 26), vi a1, vi a2] [] (x_Mo_in l D B H0 ad _ (A 0 0 26) a1 a2 hS _ _ e7) cl_Mo_108 e_x_Mo_takes_21 rfl rfl rfl ⟨by decide, by decide⟩ ?_
      rintro _ _ ⟨rfl, rfl⟩
      show JM g D ad w0 q6.2 24 [(0, vr 0 0), (1, vi a0), (2, vi a1), (3, vi a2)] [vi q6.1]
      obtain ⟨c8, h⟩ := igd h
      refine m_if_ne (tgt := 34) C e_x_Mo_takes_24 (by decide) c8 (fun c9 => ?_) (fun c9 => ?_)
      · have h := ifn c9 h
        refine m_blk 35 [(0, vr 0 0), (1, vi a0), (2, vi a1), (3, vi a2)] [vr 0 0] C f_x_Mo_takes_34_1 rfl ?_
        refine m_geti C e_x_Mo_takes_35 fg_Mo_165 rfl (by decide) rfl (q6.2 0 0 26) rfl ?_
        refine m_blk 41 [(4, vi (q6.2 0 0 26)), (0, vr 0 0), (1, vi a0), (2, vi a1), (3, vi a2)] [vr 0 0] C f_x_Mo_takes_38_2 rfl ?_
        obtain ⟨q10, e11, h⟩ := obd h
        refine m_callV C Rm Y [] [] (x_Mo_next l D B H0 ad _  hS _ _ e11) cl_Mo_176 rfl (by decide) rfl rfl e_x_Mo_takes_41 rfl rfl rfl ⟨by decide, by decide⟩ ?_
        rintro _ _ ⟨rfl, rfl⟩
        show JM g D ad w0 q10.2 44 [(4, vi (q6.2 0 0 26)), (0, vr 0 0), (1, vi a0), (2, vi a1), (3, vi a2)] []
        refine m_blk 46 [(4, vi (q6.2 0 0 26)), (0, vr 0 0), (1, vi a0), (2, vi a1), (3, vi a2)] [vi (q6.2 0 0 26)] C f_x_Mo_takes_44_1 rfl ?_
        exact m_iret C Rm E e_x_Mo_takes_46 (fin1 h)
      · have h := ifp c9 h
        refine m_blk 29 [(0, vr 0 0), (1, vi a0), (2, vi a1), (3, vi a2)] [vi 1, vr 0 0] C f_x_Mo_takes_27_2 rfl ?_
        refine m_putz C e_x_Mo_takes_29 fp_Mo_155 rfl (by decide) rfl (Or.inr rfl) ?_
        refine m_blk 33 [(0, vr 0 0), (1, vi a0), (2, vi a1), (3, vi a2)] [vi 0] C f_x_Mo_takes_32_1 rfl ?_
        exact m_iret C Rm E e_x_Mo_takes_33 (fin1 h)

def f_Mo_node (A : mA) (a0 : Int) (a1 : Int) (a2 : Int) (a3 : Int) : Option (Int × mA) := (if g32 (A 0 0 31) then (if (A 0 0 31) = 0 then (if (0 ≤ (A 0 0 0) ∧ (A 0 0 0) < ((6 : Nat) : Int)) then (if (0 ≤ (A 0 0 30) ∧ (A 0 0 30) < ((120 : Nat) : Int)) then (some ((((A 0 0 30) + 1) - 1), (mu (mu (mu (mu (mu A 43 ((A 0 0 0).toNat) ((A 0 0 30).toNat) a0) 44 ((A 0 0 0).toNat) ((A 0 0 30).toNat) a1) 45 ((A 0 0 0).toNat) ((A 0 0 30).toNat) a2) 46 ((A 0 0 0).toNat) ((A 0 0 30).toNat) a3) 0 0 30 ((A 0 0 30) + 1)))) else none) else none) else (some (0, A))) else none)
theorem f_x_Mo_node_0_1 : mblkB b_Mo_node [(0, .aload_n 0, vi 0)] = true := by decide +kernel
theorem e_x_Mo_node_1 : decode b_Mo_node 1 = .ok (.getfield 155, 3) := by decide +kernel
theorem e_x_Mo_node_4 : decode b_Mo_node 4 = .ok (.ifCond .eq 5, 3) := by decide +kernel
theorem f_x_Mo_node_9_1 : mblkB b_Mo_node [(9, .aload_n 0, vi 0)] = true := by decide +kernel
theorem e_x_Mo_node_10 : decode b_Mo_node 10 = .ok (.getfield 48, 3) := by decide +kernel
theorem f_x_Mo_node_13_1 : mblkB b_Mo_node [(13, .aload_n 0, vi 0)] = true := by decide +kernel
theorem e_x_Mo_node_14 : decode b_Mo_node 14 = .ok (.getfield 105, 3) := by decide +kernel
theorem e_x_Mo_node_17 : decode b_Mo_node 17 = .ok (.aaload, 1) := by decide +kernel
theorem f_x_Mo_node_18_1 : mblkB b_Mo_node [(18, .aload_n 0, vi 0)] = true := by decide +kernel
theorem e_x_Mo_node_19 : decode b_Mo_node 19 = .ok (.getfield 212, 3) := by decide +kernel
theorem f_x_Mo_node_22_1 : mblkB b_Mo_node [(22, .iload_n 1, vi 0)] = true := by decide +kernel
theorem e_x_Mo_node_23 : decode b_Mo_node 23 = .ok (.iastore, 1) := by decide +kernel
theorem f_x_Mo_node_24_1 : mblkB b_Mo_node [(24, .aload_n 0, vi 0)] = true := by decide +kernel
theorem e_x_Mo_node_25 : decode b_Mo_node 25 = .ok (.getfield 51, 3) := by decide +kernel
theorem f_x_Mo_node_28_1 : mblkB b_Mo_node [(28, .aload_n 0, vi 0)] = true := by decide +kernel
theorem e_x_Mo_node_29 : decode b_Mo_node 29 = .ok (.getfield 105, 3) := by decide +kernel
theorem e_x_Mo_node_32 : decode b_Mo_node 32 = .ok (.aaload, 1) := by decide +kernel
theorem f_x_Mo_node_33_1 : mblkB b_Mo_node [(33, .aload_n 0, vi 0)] = true := by decide +kernel
theorem e_x_Mo_node_34 : decode b_Mo_node 34 = .ok (.getfield 212, 3) := by decide +kernel
theorem f_x_Mo_node_37_1 : mblkB b_Mo_node [(37, .iload_n 2, vi 0)] = true := by decide +kernel
theorem e_x_Mo_node_38 : decode b_Mo_node 38 = .ok (.iastore, 1) := by decide +kernel
theorem f_x_Mo_node_39_1 : mblkB b_Mo_node [(39, .aload_n 0, vi 0)] = true := by decide +kernel
theorem e_x_Mo_node_40 : decode b_Mo_node 40 = .ok (.getfield 54, 3) := by decide +kernel
theorem f_x_Mo_node_43_1 : mblkB b_Mo_node [(43, .aload_n 0, vi 0)] = true := by decide +kernel
theorem e_x_Mo_node_44 : decode b_Mo_node 44 = .ok (.getfield 105, 3) := by decide +kernel
theorem e_x_Mo_node_47 : decode b_Mo_node 47 = .ok (.aaload, 1) := by decide +kernel
theorem f_x_Mo_node_48_1 : mblkB b_Mo_node [(48, .aload_n 0, vi 0)] = true := by decide +kernel
theorem e_x_Mo_node_49 : decode b_Mo_node 49 = .ok (.getfield 212, 3) := by decide +kernel
theorem f_x_Mo_node_52_1 : mblkB b_Mo_node [(52, .iload_n 3, vi 0)] = true := by decide +kernel
theorem e_x_Mo_node_53 : decode b_Mo_node 53 = .ok (.iastore, 1) := by decide +kernel
theorem f_x_Mo_node_54_1 : mblkB b_Mo_node [(54, .aload_n 0, vi 0)] = true := by decide +kernel
theorem e_x_Mo_node_55 : decode b_Mo_node 55 = .ok (.getfield 57, 3) := by decide +kernel
theorem f_x_Mo_node_58_1 : mblkB b_Mo_node [(58, .aload_n 0, vi 0)] = true := by decide +kernel
theorem e_x_Mo_node_59 : decode b_Mo_node 59 = .ok (.getfield 105, 3) := by decide +kernel
theorem e_x_Mo_node_62 : decode b_Mo_node 62 = .ok (.aaload, 1) := by decide +kernel
theorem f_x_Mo_node_63_1 : mblkB b_Mo_node [(63, .aload_n 0, vi 0)] = true := by decide +kernel
theorem e_x_Mo_node_64 : decode b_Mo_node 64 = .ok (.getfield 212, 3) := by decide +kernel
theorem f_x_Mo_node_67_1 : mblkB b_Mo_node [(67, .iload 4, vi 0)] = true := by decide +kernel
theorem e_x_Mo_node_69 : decode b_Mo_node 69 = .ok (.iastore, 1) := by decide +kernel
theorem f_x_Mo_node_70_2 : mblkB b_Mo_node [(70, .aload_n 0, vi 0), (71, .dup, vi 0)] = true := by decide +kernel
theorem e_x_Mo_node_72 : decode b_Mo_node 72 = .ok (.getfield 212, 3) := by decide +kernel
theorem f_x_Mo_node_75_2 : mblkB b_Mo_node [(75, .iconst 1, vi 1), (76, .iadd, vi 0)] = true := by decide +kernel
theorem e_x_Mo_node_77 : decode b_Mo_node 77 = .ok (.putfield 212, 3) := by decide +kernel
theorem f_x_Mo_node_80_1 : mblkB b_Mo_node [(80, .aload_n 0, vi 0)] = true := by decide +kernel
theorem e_x_Mo_node_81 : decode b_Mo_node 81 = .ok (.getfield 212, 3) := by decide +kernel
theorem f_x_Mo_node_84_2 : mblkB b_Mo_node [(84, .iconst 1, vi 1), (85, .isub, vi 0)] = true := by decide +kernel
theorem e_x_Mo_node_86 : decode b_Mo_node 86 = .ok (.ireturn, 1) := by decide +kernel
theorem f_x_Mo_node_7_1 : mblkB b_Mo_node [(7, .iconst 0, vi 0)] = true := by decide +kernel
theorem e_x_Mo_node_8 : decode b_Mo_node 8 = .ok (.ireturn, 1) := by decide +kernel
set_option maxHeartbeats 4000000 in
set_option maxRecDepth 20000 in
theorem x_Mo_node  : ∀ (l : Launch) (D : va_G) (B : Nat) (H0 : Heap) (ad : mAd) (A : mA) (a0 : Int) (a1 : Int) (a2 : Int) (a3 : Int) (hS : mStr D ad) (r9 : Int) (A9 : mA), f_Mo_node  A a0 a1 a2 a3 = some (r9, A9) → mMet l D B H0 ad y_Mo_node b_Mo_node 5 (some .int) 0 0 [vr 0 0, vi a0, vi a1, vi a2, vi a3] A (fun v A' => v = some (vi r9) ∧ A' = A9) := by
  intro l D B H0 ad A a0 a1 a2 a3  hS r9 A9 h
  refine m_met (by decide) rfl (fun g w0 C Rm Y E => ?_)
  show JM g D ad w0 A 0 [(0, vr 0 0), (1, vi a0), (2, vi a1), (3, vi a2), (4, vi a3)] []
  unfold f_Mo_node at h
  refine m_blk 1 [(0, vr 0 0), (1, vi a0), (2, vi a1), (3, vi a2), (4, vi a3)] [vr 0 0] C f_x_Mo_node_0_1 rfl ?_
  refine m_geti C e_x_Mo_node_1 fg_Mo_155 rfl (by decide) rfl (A 0 0 31) rfl ?_
  obtain ⟨c1, h⟩ := igd h
  refine m_if_eq (tgt := 9) C e_x_Mo_node_4 (by decide) c1 (fun c2 => ?_) (fun c2 => ?_)
  · have h := ifp c2 h
    refine m_blk 10 [(0, vr 0 0), (1, vi a0), (2, vi a1), (3, vi a2), (4, vi a3)] [vr 0 0] C f_x_Mo_node_9_1 rfl ?_
    refine m_getr C e_x_Mo_node_10 fg_Mo_48 rfl (by decide) rfl ?_
    refine m_blk 14 [(0, vr 0 0), (1, vi a0), (2, vi a1), (3, vi a2), (4, vi a3)] [vr 0 0, vr 23 0] C f_x_Mo_node_13_1 rfl ?_
    refine m_geti C e_x_Mo_node_14 fg_Mo_105 rfl (by decide) rfl (A 0 0 0) rfl ?_
    obtain ⟨c3, h⟩ := igd h
    have k4 : (A 0 0 0).toNat < 6 := by omega
    refine m_aald C ((A 0 0 0).toNat) e_x_Mo_node_17 rfl rfl rfl (by decide) (by decide) c3.1 c3.2 (mz _ _) ?_
    refine m_blk 19 [(0, vr 0 0), (1, vi a0), (2, vi a1), (3, vi a2), (4, vi a3)] [vr 0 0, vr 43 ((A 0 0 0).toNat)] C f_x_Mo_node_18_1 rfl ?_
    refine m_geti C e_x_Mo_node_19 fg_Mo_212 rfl (by decide) rfl (A 0 0 30) rfl ?_
    refine m_blk 23 [(0, vr 0 0), (1, vi a0), (2, vi a1), (3, vi a2), (4, vi a3)] [vi a0, vi (A 0 0 30), vr 43 ((A 0 0 0).toNat)] C f_x_Mo_node_22_1 rfl ?_
    obtain ⟨c5, h⟩ := igd h
    refine m_iast C e_x_Mo_node_23 rfl k4 (by decide) c5.1 c5.2 ?_
    refine m_blk 25 [(0, vr 0 0), (1, vi a0), (2, vi a1), (3, vi a2), (4, vi a3)] [vr 0 0] C f_x_Mo_node_24_1 rfl ?_
    refine m_getr C e_x_Mo_node_25 fg_Mo_51 rfl (by decide) rfl ?_
    refine m_blk 29 [(0, vr 0 0), (1, vi a0), (2, vi a1), (3, vi a2), (4, vi a3)] [vr 0 0, vr 24 0] C f_x_Mo_node_28_1 rfl ?_
    refine m_geti C e_x_Mo_node_29 fg_Mo_105 rfl (by decide) rfl (A 0 0 0) rfl ?_
    have k6 : (A 0 0 0).toNat < 6 := by omega
    refine m_aald C ((A 0 0 0).toNat) e_x_Mo_node_32 rfl rfl rfl (by decide) (by decide) c3.1 c3.2 (mz _ _) ?_
    refine m_blk 34 [(0, vr 0 0), (1, vi a0), (2, vi a1), (3, vi a2), (4, vi a3)] [vr 0 0, vr 44 ((A 0 0 0).toNat)] C f_x_Mo_node_33_1 rfl ?_
    refine m_geti C e_x_Mo_node_34 fg_Mo_212 rfl (by decide) rfl (A 0 0 30) rfl ?_
    refine m_blk 38 [(0, vr 0 0), (1, vi a0), (2, vi a1), (3, vi a2), (4, vi a3)] [vi a1, vi (A 0 0 30), vr 44 ((A 0 0 0).toNat)] C f_x_Mo_node_37_1 rfl ?_
    refine m_iast C e_x_Mo_node_38 rfl k6 (by decide) c5.1 c5.2 ?_
    refine m_blk 40 [(0, vr 0 0), (1, vi a0), (2, vi a1), (3, vi a2), (4, vi a3)] [vr 0 0] C f_x_Mo_node_39_1 rfl ?_
    refine m_getr C e_x_Mo_node_40 fg_Mo_54 rfl (by decide) rfl ?_
    refine m_blk 44 [(0, vr 0 0), (1, vi a0), (2, vi a1), (3, vi a2), (4, vi a3)] [vr 0 0, vr 25 0] C f_x_Mo_node_43_1 rfl ?_
    refine m_geti C e_x_Mo_node_44 fg_Mo_105 rfl (by decide) rfl (A 0 0 0) rfl ?_
    have k7 : (A 0 0 0).toNat < 6 := by omega
    refine m_aald C ((A 0 0 0).toNat) e_x_Mo_node_47 rfl rfl rfl (by decide) (by decide) c3.1 c3.2 (mz _ _) ?_
    refine m_blk 49 [(0, vr 0 0), (1, vi a0), (2, vi a1), (3, vi a2), (4, vi a3)] [vr 0 0, vr 45 ((A 0 0 0).toNat)] C f_x_Mo_node_48_1 rfl ?_
    refine m_geti C e_x_Mo_node_49 fg_Mo_212 rfl (by decide) rfl (A 0 0 30) rfl ?_
    refine m_blk 53 [(0, vr 0 0), (1, vi a0), (2, vi a1), (3, vi a2), (4, vi a3)] [vi a2, vi (A 0 0 30), vr 45 ((A 0 0 0).toNat)] C f_x_Mo_node_52_1 rfl ?_
    refine m_iast C e_x_Mo_node_53 rfl k7 (by decide) c5.1 c5.2 ?_
    refine m_blk 55 [(0, vr 0 0), (1, vi a0), (2, vi a1), (3, vi a2), (4, vi a3)] [vr 0 0] C f_x_Mo_node_54_1 rfl ?_
    refine m_getr C e_x_Mo_node_55 fg_Mo_57 rfl (by decide) rfl ?_
    refine m_blk 59 [(0, vr 0 0), (1, vi a0), (2, vi a1), (3, vi a2), (4, vi a3)] [vr 0 0, vr 26 0] C f_x_Mo_node_58_1 rfl ?_
    refine m_geti C e_x_Mo_node_59 fg_Mo_105 rfl (by decide) rfl (A 0 0 0) rfl ?_
    have k8 : (A 0 0 0).toNat < 6 := by omega
    refine m_aald C ((A 0 0 0).toNat) e_x_Mo_node_62 rfl rfl rfl (by decide) (by decide) c3.1 c3.2 (mz _ _) ?_
    refine m_blk 64 [(0, vr 0 0), (1, vi a0), (2, vi a1), (3, vi a2), (4, vi a3)] [vr 0 0, vr 46 ((A 0 0 0).toNat)] C f_x_Mo_node_63_1 rfl ?_
    refine m_geti C e_x_Mo_node_64 fg_Mo_212 rfl (by decide) rfl (A 0 0 30) rfl ?_
    refine m_blk 69 [(0, vr 0 0), (1, vi a0), (2, vi a1), (3, vi a2), (4, vi a3)] [vi a3, vi (A 0 0 30), vr 46 ((A 0 0 0).toNat)] C f_x_Mo_node_67_1 rfl ?_
    refine m_iast C e_x_Mo_node_69 rfl k8 (by decide) c5.1 c5.2 ?_
    refine m_blk 72 [(0, vr 0 0), (1, vi a0), (2, vi a1), (3, vi a2), (4, vi a3)] [vr 0 0, vr 0 0] C f_x_Mo_node_70_2 rfl ?_
    refine m_geti C e_x_Mo_node_72 fg_Mo_212 rfl (by decide) rfl (A 0 0 30) rfl ?_
    refine m_blk 77 [(0, vr 0 0), (1, vi a0), (2, vi a1), (3, vi a2), (4, vi a3)] [vi ((A 0 0 30) + 1), vr 0 0] C f_x_Mo_node_75_2 rfl ?_
    refine m_puti C e_x_Mo_node_77 fp_Mo_212 rfl (by decide) rfl ?_
    refine m_blk 81 [(0, vr 0 0), (1, vi a0), (2, vi a1), (3, vi a2), (4, vi a3)] [vr 0 0] C f_x_Mo_node_80_1 rfl ?_
    refine m_geti C e_x_Mo_node_81 fg_Mo_212 rfl (by decide) rfl ((A 0 0 30) + 1) (mu_at (mu (mu (mu (mu A 43 ((A 0 0 0).toNat) ((A 0 0 30).toNat) a0) 44 ((A 0 0 0).toNat) ((A 0 0 30).toNat) a1) 45 ((A 0 0 0).toNat) ((A 0 0 30).toNat) a2) 46 ((A 0 0 0).toNat) ((A 0 0 30).toNat) a3) 0 0 30 ((A 0 0 30) + 1)) ?_
    refine m_blk 86 [(0, vr 0 0), (1, vi a0), (2, vi a1), (3, vi a2), (4, vi a3)] [vi (((A 0 0 30) + 1) - 1)] C f_x_Mo_node_84_2 rfl ?_
    exact m_iret C Rm E e_x_Mo_node_86 (fin1 h)
  · have h := ifn c2 h
    refine m_blk 8 [(0, vr 0 0), (1, vi a0), (2, vi a1), (3, vi a2), (4, vi a3)] [vi 0] C f_x_Mo_node_7_1 rfl ?_
    exact m_iret C Rm E e_x_Mo_node_8 (fin1 h)

def f_Mo_term_5 (one : mA → Option (Int × mA)) : Nat → mA → Int → Option (Int × mA)
  | 0, _, _ => none
  | n + 1, A, b1 => (Option.bind (f_Mo_isSign A 42) (fun q1 => (if g32 q1.1 then (if q1.1 = 0 then (Option.bind (f_Mo_isSign q1.2 37) (fun q11 => (if g32 q11.1 then (if q11.1 = 0 then (some (b1, q11.2)) else (Option.bind (f_Mo_next q11.2 ) (fun q15 => (Option.bind (one q15.2 ) (fun q17 => (Option.bind (f_Mo_node q17.2 (q11.2 0 0 26) 0 b1 q17.1) (fun q19 => (f_Mo_term_5 one n q19.2 q19.1)))))))) else none))) else (Option.bind (f_Mo_next q1.2 ) (fun q5 => (Option.bind (one q5.2 ) (fun q7 => (Option.bind (f_Mo_node q7.2 (q1.2 0 0 26) 0 b1 q7.1) (fun q9 => (f_Mo_term_5 one n q9.2 q9.1)))))))) else none)))
def f_Mo_term (one : mA → Option (Int × mA)) (A : mA)  : Option (Int × mA) := (Option.bind (one A ) (fun q21 => (f_Mo_term_5 one 200 q21.2 q21.1)))
theorem f_x_Mo_term_0_1 : mblkB b_Mo_term [(0, .aload_n 0, vi 0)] = true := by decide +kernel
theorem e_x_Mo_term_1 : decode b_Mo_term 1 = .ok (.invokevirtual 225, 3) := by decide +kernel
theorem f_x_Mo_term_4_1 : mblkB b_Mo_term [(4, .istore_n 1, vi 0)] = true := by decide +kernel
theorem f_x_Mo_term_5_2 : mblkB b_Mo_term [(5, .aload_n 0, vi 0), (6, .bipush 42, vi 42)] = true := by decide +kernel
theorem e_x_Mo_term_8 : decode b_Mo_term 8 = .ok (.invokevirtual 173, 3) := by decide +kernel
theorem e_x_Mo_term_11 : decode b_Mo_term 11 = .ok (.ifCond .ne 12, 3) := by decide +kernel
theorem f_x_Mo_term_23_1 : mblkB b_Mo_term [(23, .aload_n 0, vi 0)] = true := by decide +kernel
theorem e_x_Mo_term_24 : decode b_Mo_term 24 = .ok (.getfield 165, 3) := by decide +kernel
theorem f_x_Mo_term_27_2 : mblkB b_Mo_term [(27, .istore_n 2, vi 0), (28, .aload_n 0, vi 0)] = true := by decide +kernel
theorem e_x_Mo_term_29 : decode b_Mo_term 29 = .ok (.invokevirtual 176, 3) := by decide +kernel
theorem f_x_Mo_term_32_1 : mblkB b_Mo_term [(32, .aload_n 0, vi 0)] = true := by decide +kernel
theorem e_x_Mo_term_33 : decode b_Mo_term 33 = .ok (.invokevirtual 225, 3) := by decide +kernel
theorem f_x_Mo_term_36_6 : mblkB b_Mo_term [(36, .istore_n 3, vi 0), (37, .aload_n 0, vi 0), (38, .iload_n 2, vi 0), (39, .iconst 0, vi 0), (40, .iload_n 1, vi 0), (41, .iload_n 3, vi 0)] = true := by decide +kernel
theorem e_x_Mo_term_42 : decode b_Mo_term 42 = .ok (.invokevirtual 218, 3) := by decide +kernel
theorem f_x_Mo_term_45_2 : mblkB b_Mo_term [(45, .istore_n 1, vi 0), (46, .goto (-41), vi 5)] = true := by decide +kernel
theorem f_x_Mo_term_14_2 : mblkB b_Mo_term [(14, .aload_n 0, vi 0), (15, .bipush 37, vi 37)] = true := by decide +kernel
theorem e_x_Mo_term_17 : decode b_Mo_term 17 = .ok (.invokevirtual 173, 3) := by decide +kernel
theorem e_x_Mo_term_20 : decode b_Mo_term 20 = .ok (.ifCond .eq 29, 3) := by decide +kernel
theorem f_x_Mo_term_49_1 : mblkB b_Mo_term [(49, .iload_n 1, vi 0)] = true := by decide +kernel
theorem e_x_Mo_term_50 : decode b_Mo_term 50 = .ok (.ireturn, 1) := by decide +kernel
set_option maxHeartbeats 4000000 in
set_option maxRecDepth 20000 in
theorem x_Mo_term {one : mA → Option (Int × mA)} {fr lo : Nat} (hone : ∀ (l : Launch) (D : va_G) (B : Nat) (H0 : Heap) (ad : mAd) (A : mA)  (hS : mStr D ad) (r9 : Int) (A9 : mA), one A  = some (r9, A9) → mMet l D B H0 ad y_Mo_one b_Mo_one 3 (some .int) fr lo [vr 0 0] A (fun v A' => v = some (vi r9) ∧ A' = A9)) : ∀ (l : Launch) (D : va_G) (B : Nat) (H0 : Heap) (ad : mAd) (A : mA)  (hS : mStr D ad) (r9 : Int) (A9 : mA), f_Mo_term one A  = some (r9, A9) → mMet l D B H0 ad y_Mo_term b_Mo_term 4 (some .int) (fr + 8) (lo + 300) [vr 0 0] A (fun v A' => v = some (vi r9) ∧ A' = A9) := by
  intro l D B H0 ad A   hS r9 A9 h
  refine m_met (by decide) rfl (fun g w0 C Rm Y E => ?_)
  have hd_5 : ∀ (n : Nat) (A : mA) (b1 : Int) , f_Mo_term_5 one n A b1 = some (r9, A9) → JM g D ad w0 A 5 [(0, vr 0 0), (1, vi b1)] [] := by
    intro n
    induction n with
    | zero => intro A b1  h; cases h
    | succ n ih =>
      intro A b1  h
      unfold f_Mo_term_5 at h
      refine m_blk 8 [(0, vr 0 0), (1, vi b1)] [vi 42, vr 0 0] C f_x_Mo_term_5_2 rfl ?_
      obtain ⟨q1, e2, h⟩ := obd h
      refine m_callV C Rm Y [vi 42] [] (x_Mo_isSign l D B H0 ad _ 42 hS _ _ e2) cl_Mo_173 rfl (by decide) rfl rfl e_x_Mo_term_8 rfl rfl rfl ⟨by show _ ≤ ((fr + 8) : Nat); omega, by show _ ≤ ((lo + 300) : Nat); omega⟩ ?_
      rintro _ _ ⟨rfl, rfl⟩
      show JM g D ad w0 q1.2 11 [(0, vr 0 0), (1, vi b1)] [vi q1.1]
      obtain ⟨c3, h⟩ := igd h
      refine m_if_ne (tgt := 23) C e_x_Mo_term_11 (by decide) c3 (fun c4 => ?_) (fun c4 => ?_)
      · have h := ifn c4 h
        refine m_blk 24 [(0, vr 0 0), (1, vi b1)] [vr 0 0] C f_x_Mo_term_23_1 rfl ?_
        refine m_geti C e_x_Mo_term_24 fg_Mo_165 rfl (by decide) rfl (q1.2 0 0 26) rfl ?_
        refine m_blk 29 [(2, vi (q1.2 0 0 26)), (0, vr 0 0), (1, vi b1)] [vr 0 0] C f_x_Mo_term_27_2 rfl ?_
        obtain ⟨q5, e6, h⟩ := obd h
        refine m_callV C Rm Y [] [] (x_Mo_next l D B H0 ad _  hS _ _ e6) cl_Mo_176 rfl (by decide) rfl rfl e_x_Mo_term_29 rfl rfl rfl ⟨by show _ ≤ ((fr + 8) : Nat); omega, by show _ ≤ ((lo + 300) : Nat); omega⟩ ?_
        rintro _ _ ⟨rfl, rfl⟩
        show JM g D ad w0 q5.2 32 [(2, vi (q1.2 0 0 26)), (0, vr 0 0), (1, vi b1)] []
        refine m_blk 33 [(2, vi (q1.2 0 0 26)), (0, vr 0 0), (1, vi b1)] [vr 0 0] C f_x_Mo_term_32_1 rfl ?_
        obtain ⟨q7, e8, h⟩ := obd h
        refine m_callV C Rm Y [] [] (hone l D B H0 ad _  hS _ _ e8) cl_Mo_225 rfl (by decide) rfl rfl e_x_Mo_term_33 rfl rfl rfl ⟨by show _ ≤ ((fr + 8) : Nat); omega, by show _ ≤ ((lo + 300) : Nat); omega⟩ ?_
        rintro _ _ ⟨rfl, rfl⟩
        show JM g D ad w0 q7.2 36 [(2, vi (q1.2 0 0 26)), (0, vr 0 0), (1, vi b1)] [vi q7.1]
        refine m_blk 42 [(3, vi q7.1), (2, vi (q1.2 0 0 26)), (0, vr 0 0), (1, vi b1)] [vi q7.1, vi b1, vi 0, vi (q1.2 0 0 26), vr 0 0] C f_x_Mo_term_36_6 rfl ?_
        obtain ⟨q9, e10, h⟩ := obd h
        refine m_callV C Rm Y [vi (q1.2 0 0 26), vi 0, vi b1, vi q7.1] [] (x_Mo_node l D B H0 ad _ (q1.2 0 0 26) 0 b1 q7.1 hS _ _ e10) cl_Mo_218 rfl (by decide) rfl rfl e_x_Mo_term_42 rfl rfl rfl ⟨by show _ ≤ ((fr + 8) : Nat); omega, by show _ ≤ ((lo + 300) : Nat); omega⟩ ?_
        rintro _ _ ⟨rfl, rfl⟩
        show JM g D ad w0 q9.2 45 [(3, vi q7.1), (2, vi (q1.2 0 0 26)), (0, vr 0 0), (1, vi b1)] [vi q9.1]
        refine m_blk 5 [(1, vi q9.1), (3, vi q7.1), (2, vi (q1.2 0 0 26)), (0, vr 0 0)] [] C f_x_Mo_term_45_2 rfl ?_
        refine m_loc [(0, vr 0 0), (1, vi q9.1)] ⟨rfl, rfl, trivial⟩ ?_
        exact ih q9.2 q9.1  h
      · have h := ifp c4 h
        refine m_blk 17 [(0, vr 0 0), (1, vi b1)] [vi 37, vr 0 0] C f_x_Mo_term_14_2 rfl ?_
        obtain ⟨q11, e12, h⟩ := obd h
        refine m_callV C Rm Y [vi 37] [] (x_Mo_isSign l D B H0 ad _ 37 hS _ _ e12) cl_Mo_173 rfl (by decide) rfl rfl e_x_Mo_term_17 rfl rfl rfl ⟨by show _ ≤ ((fr + 8) : Nat); omega, by show _ ≤ ((lo + 300) : Nat); omega⟩ ?_
        rintro _ _ ⟨rfl, rfl⟩
        show JM g D ad w0 q11.2 20 [(0, vr 0 0), (1, vi b1)] [vi q11.1]
        obtain ⟨c13, h⟩ := igd h
        refine m_if_eq (tgt := 49) C e_x_Mo_term_20 (by decide) c13 (fun c14 => ?_) (fun c14 => ?_)
        · have h := ifp c14 h
          refine m_blk 50 [(0, vr 0 0), (1, vi b1)] [vi b1] C f_x_Mo_term_49_1 rfl ?_
          exact m_iret C Rm E e_x_Mo_term_50 (fin1 h)
        · have h := ifn c14 h
          refine m_blk 24 [(0, vr 0 0), (1, vi b1)] [vr 0 0] C f_x_Mo_term_23_1 rfl ?_
          refine m_geti C e_x_Mo_term_24 fg_Mo_165 rfl (by decide) rfl (q11.2 0 0 26) rfl ?_
          refine m_blk 29 [(2, vi (q11.2 0 0 26)), (0, vr 0 0), (1, vi b1)] [vr 0 0] C f_x_Mo_term_27_2 rfl ?_
          obtain ⟨q15, e16, h⟩ := obd h
          refine m_callV C Rm Y [] [] (x_Mo_next l D B H0 ad _  hS _ _ e16) cl_Mo_176 rfl (by decide) rfl rfl e_x_Mo_term_29 rfl rfl rfl ⟨by show _ ≤ ((fr + 8) : Nat); omega, by show _ ≤ ((lo + 300) : Nat); omega⟩ ?_
          rintro _ _ ⟨rfl, rfl⟩
          show JM g D ad w0 q15.2 32 [(2, vi (q11.2 0 0 26)), (0, vr 0 0), (1, vi b1)] []
          refine m_blk 33 [(2, vi (q11.2 0 0 26)), (0, vr 0 0), (1, vi b1)] [vr 0 0] C f_x_Mo_term_32_1 rfl ?_
          obtain ⟨q17, e18, h⟩ := obd h
          refine m_callV C Rm Y [] [] (hone l D B H0 ad _  hS _ _ e18) cl_Mo_225 rfl (by decide) rfl rfl e_x_Mo_term_33 rfl rfl rfl ⟨by show _ ≤ ((fr + 8) : Nat); omega, by show _ ≤ ((lo + 300) : Nat); omega⟩ ?_
          rintro _ _ ⟨rfl, rfl⟩
          show JM g D ad w0 q17.2 36 [(2, vi (q11.2 0 0 26)), (0, vr 0 0), (1, vi b1)] [vi q17.1]
          refine m_blk 42 [(3, vi q17.1), (2, vi (q11.2 0 0 26)), (0, vr 0 0), (1, vi b1)] [vi q17.1, vi b1, vi 0, vi (q11.2 0 0 26), vr 0 0] C f_x_Mo_term_36_6 rfl ?_
          obtain ⟨q19, e20, h⟩ := obd h
          refine m_callV C Rm Y [vi (q11.2 0 0 26), vi 0, vi b1, vi q17.1] [] (x_Mo_node l D B H0 ad _ (q11.2 0 0 26) 0 b1 q17.1 hS _ _ e20) cl_Mo_218 rfl (by decide) rfl rfl e_x_Mo_term_42 rfl rfl rfl ⟨by show _ ≤ ((fr + 8) : Nat); omega, by show _ ≤ ((lo + 300) : Nat); omega⟩ ?_
          rintro _ _ ⟨rfl, rfl⟩
          show JM g D ad w0 q19.2 45 [(3, vi q17.1), (2, vi (q11.2 0 0 26)), (0, vr 0 0), (1, vi b1)] [vi q19.1]
          refine m_blk 5 [(1, vi q19.1), (3, vi q17.1), (2, vi (q11.2 0 0 26)), (0, vr 0 0)] [] C f_x_Mo_term_45_2 rfl ?_
          refine m_loc [(0, vr 0 0), (1, vi q19.1)] ⟨rfl, rfl, trivial⟩ ?_
          exact ih q19.2 q19.1  h
  show JM g D ad w0 A 0 [(0, vr 0 0)] []
  unfold f_Mo_term at h
  refine m_blk 1 [(0, vr 0 0)] [vr 0 0] C f_x_Mo_term_0_1 rfl ?_
  obtain ⟨q21, e22, h⟩ := obd h
  refine m_callV C Rm Y [] [] (hone l D B H0 ad _  hS _ _ e22) cl_Mo_225 rfl (by decide) rfl rfl e_x_Mo_term_1 rfl rfl rfl ⟨by show _ ≤ ((fr + 8) : Nat); omega, by show _ ≤ ((lo + 300) : Nat); omega⟩ ?_
  rintro _ _ ⟨rfl, rfl⟩
  show JM g D ad w0 q21.2 4 [(0, vr 0 0)] [vi q21.1]
  refine m_blk 5 [(1, vi q21.1), (0, vr 0 0)] [] C f_x_Mo_term_4_1 rfl ?_
  refine m_loc [(0, vr 0 0), (1, vi q21.1)] ⟨rfl, rfl, trivial⟩ ?_
  exact hd_5 _ q21.2 q21.1  h

def f_Mo_sum_5 (one : mA → Option (Int × mA)) : Nat → mA → Int → Option (Int × mA)
  | 0, _, _ => none
  | n + 1, A, b1 => (Option.bind (f_Mo_isSign A 43) (fun q1 => (if g32 q1.1 then (if q1.1 = 0 then (Option.bind (f_Mo_isSign q1.2 45) (fun q11 => (if g32 q11.1 then (if q11.1 = 0 then (some (b1, q11.2)) else (Option.bind (f_Mo_next q11.2 ) (fun q15 => (Option.bind (f_Mo_term one q15.2 ) (fun q17 => (Option.bind (f_Mo_node q17.2 (q11.2 0 0 26) 0 b1 q17.1) (fun q19 => (f_Mo_sum_5 one n q19.2 q19.1)))))))) else none))) else (Option.bind (f_Mo_next q1.2 ) (fun q5 => (Option.bind (f_Mo_term one q5.2 ) (fun q7 => (Option.bind (f_Mo_node q7.2 (q1.2 0 0 26) 0 b1 q7.1) (fun q9 => (f_Mo_sum_5 one n q9.2 q9.1)))))))) else none)))
def f_Mo_sum (one : mA → Option (Int × mA)) (A : mA)  : Option (Int × mA) := (Option.bind (f_Mo_term one A ) (fun q21 => (f_Mo_sum_5 one 200 q21.2 q21.1)))
theorem f_x_Mo_sum_0_1 : mblkB b_Mo_sum [(0, .aload_n 0, vi 0)] = true := by decide +kernel
theorem e_x_Mo_sum_1 : decode b_Mo_sum 1 = .ok (.invokevirtual 222, 3) := by decide +kernel
theorem f_x_Mo_sum_4_1 : mblkB b_Mo_sum [(4, .istore_n 1, vi 0)] = true := by decide +kernel
theorem f_x_Mo_sum_5_2 : mblkB b_Mo_sum [(5, .aload_n 0, vi 0), (6, .bipush 43, vi 43)] = true := by decide +kernel
theorem e_x_Mo_sum_8 : decode b_Mo_sum 8 = .ok (.invokevirtual 173, 3) := by decide +kernel
theorem e_x_Mo_sum_11 : decode b_Mo_sum 11 = .ok (.ifCond .ne 12, 3) := by decide +kernel
theorem f_x_Mo_sum_23_1 : mblkB b_Mo_sum [(23, .aload_n 0, vi 0)] = true := by decide +kernel
theorem e_x_Mo_sum_24 : decode b_Mo_sum 24 = .ok (.getfield 165, 3) := by decide +kernel
theorem f_x_Mo_sum_27_2 : mblkB b_Mo_sum [(27, .istore_n 2, vi 0), (28, .aload_n 0, vi 0)] = true := by decide +kernel
theorem e_x_Mo_sum_29 : decode b_Mo_sum 29 = .ok (.invokevirtual 176, 3) := by decide +kernel
theorem f_x_Mo_sum_32_1 : mblkB b_Mo_sum [(32, .aload_n 0, vi 0)] = true := by decide +kernel
theorem e_x_Mo_sum_33 : decode b_Mo_sum 33 = .ok (.invokevirtual 222, 3) := by decide +kernel
theorem f_x_Mo_sum_36_6 : mblkB b_Mo_sum [(36, .istore_n 3, vi 0), (37, .aload_n 0, vi 0), (38, .iload_n 2, vi 0), (39, .iconst 0, vi 0), (40, .iload_n 1, vi 0), (41, .iload_n 3, vi 0)] = true := by decide +kernel
theorem e_x_Mo_sum_42 : decode b_Mo_sum 42 = .ok (.invokevirtual 218, 3) := by decide +kernel
theorem f_x_Mo_sum_45_2 : mblkB b_Mo_sum [(45, .istore_n 1, vi 0), (46, .goto (-41), vi 5)] = true := by decide +kernel
theorem f_x_Mo_sum_14_2 : mblkB b_Mo_sum [(14, .aload_n 0, vi 0), (15, .bipush 45, vi 45)] = true := by decide +kernel
theorem e_x_Mo_sum_17 : decode b_Mo_sum 17 = .ok (.invokevirtual 173, 3) := by decide +kernel
theorem e_x_Mo_sum_20 : decode b_Mo_sum 20 = .ok (.ifCond .eq 29, 3) := by decide +kernel
theorem f_x_Mo_sum_49_1 : mblkB b_Mo_sum [(49, .iload_n 1, vi 0)] = true := by decide +kernel
theorem e_x_Mo_sum_50 : decode b_Mo_sum 50 = .ok (.ireturn, 1) := by decide +kernel
set_option maxHeartbeats 4000000 in
set_option maxRecDepth 20000 in
theorem x_Mo_sum {one : mA → Option (Int × mA)} {fr lo : Nat} (hone : ∀ (l : Launch) (D : va_G) (B : Nat) (H0 : Heap) (ad : mAd) (A : mA)  (hS : mStr D ad) (r9 : Int) (A9 : mA), one A  = some (r9, A9) → mMet l D B H0 ad y_Mo_one b_Mo_one 3 (some .int) fr lo [vr 0 0] A (fun v A' => v = some (vi r9) ∧ A' = A9)) : ∀ (l : Launch) (D : va_G) (B : Nat) (H0 : Heap) (ad : mAd) (A : mA)  (hS : mStr D ad) (r9 : Int) (A9 : mA), f_Mo_sum one A  = some (r9, A9) → mMet l D B H0 ad y_Mo_sum b_Mo_sum 4 (some .int) (fr + 16) (lo + 600) [vr 0 0] A (fun v A' => v = some (vi r9) ∧ A' = A9) := by
  intro l D B H0 ad A   hS r9 A9 h
  refine m_met (by decide) rfl (fun g w0 C Rm Y E => ?_)
  have hd_5 : ∀ (n : Nat) (A : mA) (b1 : Int) , f_Mo_sum_5 one n A b1 = some (r9, A9) → JM g D ad w0 A 5 [(0, vr 0 0), (1, vi b1)] [] := by
    intro n
    induction n with
    | zero => intro A b1  h; cases h
    | succ n ih =>
      intro A b1  h
      unfold f_Mo_sum_5 at h
      refine m_blk 8 [(0, vr 0 0), (1, vi b1)] [vi 43, vr 0 0] C f_x_Mo_sum_5_2 rfl ?_
      obtain ⟨q1, e2, h⟩ := obd h
      refine m_callV C Rm Y [vi 43] [] (x_Mo_isSign l D B H0 ad _ 43 hS _ _ e2) cl_Mo_173 rfl (by decide) rfl rfl e_x_Mo_sum_8 rfl rfl rfl ⟨by show _ ≤ ((fr + 16) : Nat); omega, by show _ ≤ ((lo + 600) : Nat); omega⟩ ?_
      rintro _ _ ⟨rfl, rfl⟩
      show JM g D ad w0 q1.2 11 [(0, vr 0 0), (1, vi b1)] [vi q1.1]
      obtain ⟨c3, h⟩ := igd h
      refine m_if_ne (tgt := 23) C e_x_Mo_sum_11 (by decide) c3 (fun c4 => ?_) (fun c4 => ?_)
      · have h := ifn c4 h
        refine m_blk 24 [(0, vr 0 0), (1, vi b1)] [vr 0 0] C f_x_Mo_sum_23_1 rfl ?_
        refine m_geti C e_x_Mo_sum_24 fg_Mo_165 rfl (by decide) rfl (q1.2 0 0 26) rfl ?_
        refine m_blk 29 [(2, vi (q1.2 0 0 26)), (0, vr 0 0), (1, vi b1)] [vr 0 0] C f_x_Mo_sum_27_2 rfl ?_
        obtain ⟨q5, e6, h⟩ := obd h
        refine m_callV C Rm Y [] [] (x_Mo_next l D B H0 ad _  hS _ _ e6) cl_Mo_176 rfl (by decide) rfl rfl e_x_Mo_sum_29 rfl rfl rfl ⟨by show _ ≤ ((fr + 16) : Nat); omega, by show _ ≤ ((lo + 600) : Nat); omega⟩ ?_
        rintro _ _ ⟨rfl, rfl⟩
        show JM g D ad w0 q5.2 32 [(2, vi (q1.2 0 0 26)), (0, vr 0 0), (1, vi b1)] []
        refine m_blk 33 [(2, vi (q1.2 0 0 26)), (0, vr 0 0), (1, vi b1)] [vr 0 0] C f_x_Mo_sum_32_1 rfl ?_
        obtain ⟨q7, e8, h⟩ := obd h
        refine m_callV C Rm Y [] [] (x_Mo_term hone l D B H0 ad _  hS _ _ e8) cl_Mo_222 rfl (by decide) rfl rfl e_x_Mo_sum_33 rfl rfl rfl ⟨by show _ ≤ ((fr + 16) : Nat); omega, by show _ ≤ ((lo + 600) : Nat); omega⟩ ?_
        rintro _ _ ⟨rfl, rfl⟩
        show JM g D ad w0 q7.2 36 [(2, vi (q1.2 0 0 26)), (0, vr 0 0), (1, vi b1)] [vi q7.1]
        refine m_blk 42 [(3, vi q7.1), (2, vi (q1.2 0 0 26)), (0, vr 0 0), (1, vi b1)] [vi q7.1, vi b1, vi 0, vi (q1.2 0 0 26), vr 0 0] C f_x_Mo_sum_36_6 rfl ?_
        obtain ⟨q9, e10, h⟩ := obd h
        refine m_callV C Rm Y [vi (q1.2 0 0 26), vi 0, vi b1, vi q7.1] [] (x_Mo_node l D B H0 ad _ (q1.2 0 0 26) 0 b1 q7.1 hS _ _ e10) cl_Mo_218 rfl (by decide) rfl rfl e_x_Mo_sum_42 rfl rfl rfl ⟨by show _ ≤ ((fr + 16) : Nat); omega, by show _ ≤ ((lo + 600) : Nat); omega⟩ ?_
        rintro _ _ ⟨rfl, rfl⟩
        show JM g D ad w0 q9.2 45 [(3, vi q7.1), (2, vi (q1.2 0 0 26)), (0, vr 0 0), (1, vi b1)] [vi q9.1]
        refine m_blk 5 [(1, vi q9.1), (3, vi q7.1), (2, vi (q1.2 0 0 26)), (0, vr 0 0)] [] C f_x_Mo_sum_45_2 rfl ?_
        refine m_loc [(0, vr 0 0), (1, vi q9.1)] ⟨rfl, rfl, trivial⟩ ?_
        exact ih q9.2 q9.1  h
      · have h := ifp c4 h
        refine m_blk 17 [(0, vr 0 0), (1, vi b1)] [vi 45, vr 0 0] C f_x_Mo_sum_14_2 rfl ?_
        obtain ⟨q11, e12, h⟩ := obd h
        refine m_callV C Rm Y [vi 45] [] (x_Mo_isSign l D B H0 ad _ 45 hS _ _ e12) cl_Mo_173 rfl (by decide) rfl rfl e_x_Mo_sum_17 rfl rfl rfl ⟨by show _ ≤ ((fr + 16) : Nat); omega, by show _ ≤ ((lo + 600) : Nat); omega⟩ ?_
        rintro _ _ ⟨rfl, rfl⟩
        show JM g D ad w0 q11.2 20 [(0, vr 0 0), (1, vi b1)] [vi q11.1]
        obtain ⟨c13, h⟩ := igd h
        refine m_if_eq (tgt := 49) C e_x_Mo_sum_20 (by decide) c13 (fun c14 => ?_) (fun c14 => ?_)
        · have h := ifp c14 h
          refine m_blk 50 [(0, vr 0 0), (1, vi b1)] [vi b1] C f_x_Mo_sum_49_1 rfl ?_
          exact m_iret C Rm E e_x_Mo_sum_50 (fin1 h)
        · have h := ifn c14 h
          refine m_blk 24 [(0, vr 0 0), (1, vi b1)] [vr 0 0] C f_x_Mo_sum_23_1 rfl ?_
          refine m_geti C e_x_Mo_sum_24 fg_Mo_165 rfl (by decide) rfl (q11.2 0 0 26) rfl ?_
          refine m_blk 29 [(2, vi (q11.2 0 0 26)), (0, vr 0 0), (1, vi b1)] [vr 0 0] C f_x_Mo_sum_27_2 rfl ?_
          obtain ⟨q15, e16, h⟩ := obd h
          refine m_callV C Rm Y [] [] (x_Mo_next l D B H0 ad _  hS _ _ e16) cl_Mo_176 rfl (by decide) rfl rfl e_x_Mo_sum_29 rfl rfl rfl ⟨by show _ ≤ ((fr + 16) : Nat); omega, by show _ ≤ ((lo + 600) : Nat); omega⟩ ?_
          rintro _ _ ⟨rfl, rfl⟩
          show JM g D ad w0 q15.2 32 [(2, vi (q11.2 0 0 26)), (0, vr 0 0), (1, vi b1)] []
          refine m_blk 33 [(2, vi (q11.2 0 0 26)), (0, vr 0 0), (1, vi b1)] [vr 0 0] C f_x_Mo_sum_32_1 rfl ?_
          obtain ⟨q17, e18, h⟩ := obd h
          refine m_callV C Rm Y [] [] (x_Mo_term hone l D B H0 ad _  hS _ _ e18) cl_Mo_222 rfl (by decide) rfl rfl e_x_Mo_sum_33 rfl rfl rfl ⟨by show _ ≤ ((fr + 16) : Nat); omega, by show _ ≤ ((lo + 600) : Nat); omega⟩ ?_
          rintro _ _ ⟨rfl, rfl⟩
          show JM g D ad w0 q17.2 36 [(2, vi (q11.2 0 0 26)), (0, vr 0 0), (1, vi b1)] [vi q17.1]
          refine m_blk 42 [(3, vi q17.1), (2, vi (q11.2 0 0 26)), (0, vr 0 0), (1, vi b1)] [vi q17.1, vi b1, vi 0, vi (q11.2 0 0 26), vr 0 0] C f_x_Mo_sum_36_6 rfl ?_
          obtain ⟨q19, e20, h⟩ := obd h
          refine m_callV C Rm Y [vi (q11.2 0 0 26), vi 0, vi b1, vi q17.1] [] (x_Mo_node l D B H0 ad _ (q11.2 0 0 26) 0 b1 q17.1 hS _ _ e20) cl_Mo_218 rfl (by decide) rfl rfl e_x_Mo_sum_42 rfl rfl rfl ⟨by show _ ≤ ((fr + 16) : Nat); omega, by show _ ≤ ((lo + 600) : Nat); omega⟩ ?_
          rintro _ _ ⟨rfl, rfl⟩
          show JM g D ad w0 q19.2 45 [(3, vi q17.1), (2, vi (q11.2 0 0 26)), (0, vr 0 0), (1, vi b1)] [vi q19.1]
          refine m_blk 5 [(1, vi q19.1), (3, vi q17.1), (2, vi (q11.2 0 0 26)), (0, vr 0 0)] [] C f_x_Mo_sum_45_2 rfl ?_
          refine m_loc [(0, vr 0 0), (1, vi q19.1)] ⟨rfl, rfl, trivial⟩ ?_
          exact ih q19.2 q19.1  h
  show JM g D ad w0 A 0 [(0, vr 0 0)] []
  unfold f_Mo_sum at h
  refine m_blk 1 [(0, vr 0 0)] [vr 0 0] C f_x_Mo_sum_0_1 rfl ?_
  obtain ⟨q21, e22, h⟩ := obd h
  refine m_callV C Rm Y [] [] (x_Mo_term hone l D B H0 ad _  hS _ _ e22) cl_Mo_222 rfl (by decide) rfl rfl e_x_Mo_sum_1 rfl rfl rfl ⟨by show _ ≤ ((fr + 16) : Nat); omega, by show _ ≤ ((lo + 600) : Nat); omega⟩ ?_
  rintro _ _ ⟨rfl, rfl⟩
  show JM g D ad w0 q21.2 4 [(0, vr 0 0)] [vi q21.1]
  refine m_blk 5 [(1, vi q21.1), (0, vr 0 0)] [] C f_x_Mo_sum_4_1 rfl ?_
  refine m_loc [(0, vr 0 0), (1, vi q21.1)] ⟨rfl, rfl, trivial⟩ ?_
  exact hd_5 _ q21.2 q21.1  h

def f_Mo_expression (one : mA → Option (Int × mA)) (A : mA)  : Option (Int × mA) := (Option.bind (f_Mo_sum one A ) (fun q1 => (Option.bind (f_Mo_isSign q1.2 60) (fun q3 => (if g32 q3.1 then (if q3.1 = 0 then (Option.bind (f_Mo_isSign q3.2 61) (fun q13 => (if g32 q13.1 then (if q13.1 = 0 then (some (q1.1, q13.2)) else (Option.bind (f_Mo_next q13.2 ) (fun q17 => (Option.bind (f_Mo_sum one q17.2 ) (fun q19 => (Option.bind (f_Mo_node q19.2 (q13.2 0 0 26) 0 q1.1 q19.1) (fun q21 => (some (q21.1, q21.2))))))))) else none))) else (Option.bind (f_Mo_next q3.2 ) (fun q7 => (Option.bind (f_Mo_sum one q7.2 ) (fun q9 => (Option.bind (f_Mo_node q9.2 (q3.2 0 0 26) 0 q1.1 q9.1) (fun q11 => (some (q11.1, q11.2))))))))) else none)))))
theorem f_x_Mo_expression_0_1 : mblkB b_Mo_expression [(0, .aload_n 0, vi 0)] = true := by decide +kernel
theorem e_x_Mo_expression_1 : decode b_Mo_expression 1 = .ok (.invokevirtual 215, 3) := by decide +kernel
theorem f_x_Mo_expression_4_3 : mblkB b_Mo_expression [(4, .istore_n 1, vi 0), (5, .aload_n 0, vi 0), (6, .bipush 60, vi 60)] = true := by decide +kernel
theorem e_x_Mo_expression_8 : decode b_Mo_expression 8 = .ok (.invokevirtual 173, 3) := by decide +kernel
theorem e_x_Mo_expression_11 : decode b_Mo_expression 11 = .ok (.ifCond .ne 14, 3) := by decide +kernel
theorem f_x_Mo_expression_25_1 : mblkB b_Mo_expression [(25, .aload_n 0, vi 0)] = true := by decide +kernel
theorem e_x_Mo_expression_26 : decode b_Mo_expression 26 = .ok (.getfield 165, 3) := by decide +kernel
theorem f_x_Mo_expression_29_2 : mblkB b_Mo_expression [(29, .istore_n 2, vi 0), (30, .aload_n 0, vi 0)] = true := by decide +kernel
theorem e_x_Mo_expression_31 : decode b_Mo_expression 31 = .ok (.invokevirtual 176, 3) := by decide +kernel
theorem f_x_Mo_expression_34_1 : mblkB b_Mo_expression [(34, .aload_n 0, vi 0)] = true := by decide +kernel
theorem e_x_Mo_expression_35 : decode b_Mo_expression 35 = .ok (.invokevirtual 215, 3) := by decide +kernel
theorem f_x_Mo_expression_38_6 : mblkB b_Mo_expression [(38, .istore_n 3, vi 0), (39, .aload_n 0, vi 0), (40, .iload_n 2, vi 0), (41, .iconst 0, vi 0), (42, .iload_n 1, vi 0), (43, .iload_n 3, vi 0)] = true := by decide +kernel
theorem e_x_Mo_expression_44 : decode b_Mo_expression 44 = .ok (.invokevirtual 218, 3) := by decide +kernel
theorem e_x_Mo_expression_47 : decode b_Mo_expression 47 = .ok (.ireturn, 1) := by decide +kernel
theorem f_x_Mo_expression_14_2 : mblkB b_Mo_expression [(14, .aload_n 0, vi 0), (15, .bipush 61, vi 61)] = true := by decide +kernel
theorem e_x_Mo_expression_17 : decode b_Mo_expression 17 = .ok (.invokevirtual 173, 3) := by decide +kernel
theorem e_x_Mo_expression_20 : decode b_Mo_expression 20 = .ok (.ifCond .ne 5, 3) := by decide +kernel
theorem f_x_Mo_expression_23_1 : mblkB b_Mo_expression [(23, .iload_n 1, vi 0)] = true := by decide +kernel
theorem e_x_Mo_expression_24 : decode b_Mo_expression 24 = .ok (.ireturn, 1) := by decide +kernel
set_option maxHeartbeats 4000000 in
set_option maxRecDepth 20000 in
theorem x_Mo_expression {one : mA → Option (Int × mA)} {fr lo : Nat} (hone : ∀ (l : Launch) (D : va_G) (B : Nat) (H0 : Heap) (ad : mAd) (A : mA)  (hS : mStr D ad) (r9 : Int) (A9 : mA), one A  = some (r9, A9) → mMet l D B H0 ad y_Mo_one b_Mo_one 3 (some .int) fr lo [vr 0 0] A (fun v A' => v = some (vi r9) ∧ A' = A9)) : ∀ (l : Launch) (D : va_G) (B : Nat) (H0 : Heap) (ad : mAd) (A : mA)  (hS : mStr D ad) (r9 : Int) (A9 : mA), f_Mo_expression one A  = some (r9, A9) → mMet l D B H0 ad y_Mo_expression b_Mo_expression 4 (some .int) (fr + 24) (lo + 900) [vr 0 0] A (fun v A' => v = some (vi r9) ∧ A' = A9) := by
  intro l D B H0 ad A   hS r9 A9 h
  refine m_met (by decide) rfl (fun g w0 C Rm Y E => ?_)
  show JM g D ad w0 A 0 [(0, vr 0 0)] []
  unfold f_Mo_expression at h
  refine m_blk 1 [(0, vr 0 0)] [vr 0 0] C f_x_Mo_expression_0_1 rfl ?_
  obtain ⟨q1, e2, h⟩ := obd h
  refine m_callV C Rm Y [] [] (x_Mo_sum hone l D B H0 ad _  hS _ _ e2) cl_Mo_215 rfl (by decide) rfl rfl e_x_Mo_expression_1 rfl rfl rfl ⟨by show _ ≤ ((fr + 24) : Nat); omega, by show _ ≤ ((lo + 900) : Nat); omega⟩ ?_
  rintro _ _ ⟨rfl, rfl⟩
  show JM g D ad w0 q1.2 4 [(0, vr 0 0)] [vi q1.1]
  refine m_blk 8 [(1, vi q1.1), (0, vr 0 0)] [vi 60, vr 0 0] C f_x_Mo_expression_4_3 rfl ?_
  obtain ⟨q3, e4, h⟩ := obd h
  refine m_callV C Rm Y [vi 60] [] (x_Mo_isSign l D B H0 ad _ 60 hS _ _ e4) cl_Mo_173 rfl (by decide) rfl rfl e_x_Mo_expression_8 rfl rfl rfl ⟨by show _ ≤ ((fr + 24) : Nat); omega, by show _ ≤ ((lo + 900) : Nat); omega⟩ ?_
  rintro _ _ ⟨rfl, rfl⟩
  show JM g D ad w0 q3.2 11 [(1, vi q1.1), (0, vr 0 0)] [vi q3.1]
  obtain ⟨c5, h⟩ := igd h
  refine m_if_ne (tgt := 25) C e_x_Mo_expression_11 (by decide) c5 (fun c6 => ?_) (fun c6 => ?_)
  · have h := ifn c6 h
    refine m_blk 26 [(1, vi q1.1), (0, vr 0 0)] [vr 0 0] C f_x_Mo_expression_25_1 rfl ?_
    refine m_geti C e_x_Mo_expression_26 fg_Mo_165 rfl (by decide) rfl (q3.2 0 0 26) rfl ?_
    refine m_blk 31 [(2, vi (q3.2 0 0 26)), (1, vi q1.1), (0, vr 0 0)] [vr 0 0] C f_x_Mo_expression_29_2 rfl ?_
    obtain ⟨q7, e8, h⟩ := obd h
    refine m_callV C Rm Y [] [] (x_Mo_next l D B H0 ad _  hS _ _ e8) cl_Mo_176 rfl (by decide) rfl rfl e_x_Mo_expression_31 rfl rfl rfl ⟨by show _ ≤ ((fr + 24) : Nat); omega, by show _ ≤ ((lo + 900) : Nat); omega⟩ ?_
    rintro _ _ ⟨rfl, rfl⟩
    show JM g D ad w0 q7.2 34 [(2, vi (q3.2 0 0 26)), (1, vi q1.1), (0, vr 0 0)] []
    refine m_blk 35 [(2, vi (q3.2 0 0 26)), (1, vi q1.1), (0, vr 0 0)] [vr 0 0] C f_x_Mo_expression_34_1 rfl ?_
    obtain ⟨q9, e10, h⟩ := obd h
    refine m_callV C Rm Y [] [] (x_Mo_sum hone l D B H0 ad _  hS _ _ e10) cl_Mo_215 rfl (by decide) rfl rfl e_x_Mo_expression_35 rfl rfl rfl ⟨by show _ ≤ ((fr + 24) : Nat); omega, by show _ ≤ ((lo + 900) : Nat); omega⟩ ?_
    rintro _ _ ⟨rfl, rfl⟩
    show JM g D ad w0 q9.2 38 [(2, vi (q3.2 0 0 26)), (1, vi q1.1), (0, vr 0 0)] [vi q9.1]
    refine m_blk 44 [(3, vi q9.1), (2, vi (q3.2 0 0 26)), (1, vi q1.1), (0, vr 0 0)] [vi q9.1, vi q1.1, vi 0, vi (q3.2 0 0 26), vr 0 0] C f_x_Mo_expression_38_6 rfl ?_
    obtain ⟨q11, e12, h⟩ := obd h
    refine m_callV C Rm Y [vi (q3.2 0 0 26), vi 0, vi q1.1, vi q9.1] [] (x_Mo_node l D B H0 ad _ (q3.2 0 0 26) 0 q1.1 q9.1 hS _ _ e12) cl_Mo_218 rfl (by decide) rfl rfl e_x_Mo_expression_44 rfl rfl rfl ⟨by show _ ≤ ((fr + 24) : Nat); omega, by show _ ≤ ((lo + 900) : Nat); omega⟩ ?_
    rintro _ _ ⟨rfl, rfl⟩
    show JM g D ad w0 q11.2 47 [(3, vi q9.1), (2, vi (q3.2 0 0 26)), (1, vi q1.1), (0, vr 0 0)] [vi q11.1]
    exact m_iret C Rm E e_x_Mo_expression_47 (fin1 h)
  · have h := ifp c6 h
    refine m_blk 17 [(1, vi q1.1), (0, vr 0 0)] [vi 61, vr 0 0] C f_x_Mo_expression_14_2 rfl ?_
    obtain ⟨q13, e14, h⟩ := obd h
    refine m_callV C Rm Y [vi 61] [] (x_Mo_isSign l D B H0 ad _ 61 hS _ _ e14) cl_Mo_173 rfl (by decide) rfl rfl e_x_Mo_expression_17 rfl rfl rfl ⟨by show _ ≤ ((fr + 24) : Nat); omega, by show _ ≤ ((lo + 900) : Nat); omega⟩ ?_
    rintro _ _ ⟨rfl, rfl⟩
    show JM g D ad w0 q13.2 20 [(1, vi q1.1), (0, vr 0 0)] [vi q13.1]
    obtain ⟨c15, h⟩ := igd h
    refine m_if_ne (tgt := 25) C e_x_Mo_expression_20 (by decide) c15 (fun c16 => ?_) (fun c16 => ?_)
    · have h := ifn c16 h
      refine m_blk 26 [(1, vi q1.1), (0, vr 0 0)] [vr 0 0] C f_x_Mo_expression_25_1 rfl ?_
      refine m_geti C e_x_Mo_expression_26 fg_Mo_165 rfl (by decide) rfl (q13.2 0 0 26) rfl ?_
      refine m_blk 31 [(2, vi (q13.2 0 0 26)), (1, vi q1.1), (0, vr 0 0)] [vr 0 0] C f_x_Mo_expression_29_2 rfl ?_
      obtain ⟨q17, e18, h⟩ := obd h
      refine m_callV C Rm Y [] [] (x_Mo_next l D B H0 ad _  hS _ _ e18) cl_Mo_176 rfl (by decide) rfl rfl e_x_Mo_expression_31 rfl rfl rfl ⟨by show _ ≤ ((fr + 24) : Nat); omega, by show _ ≤ ((lo + 900) : Nat); omega⟩ ?_
      rintro _ _ ⟨rfl, rfl⟩
      show JM g D ad w0 q17.2 34 [(2, vi (q13.2 0 0 26)), (1, vi q1.1), (0, vr 0 0)] []
      refine m_blk 35 [(2, vi (q13.2 0 0 26)), (1, vi q1.1), (0, vr 0 0)] [vr 0 0] C f_x_Mo_expression_34_1 rfl ?_
      obtain ⟨q19, e20, h⟩ := obd h
      refine m_callV C Rm Y [] [] (x_Mo_sum hone l D B H0 ad _  hS _ _ e20) cl_Mo_215 rfl (by decide) rfl rfl e_x_Mo_expression_35 rfl rfl rfl ⟨by show _ ≤ ((fr + 24) : Nat); omega, by show _ ≤ ((lo + 900) : Nat); omega⟩ ?_
      rintro _ _ ⟨rfl, rfl⟩
      show JM g D ad w0 q19.2 38 [(2, vi (q13.2 0 0 26)), (1, vi q1.1), (0, vr 0 0)] [vi q19.1]
      refine m_blk 44 [(3, vi q19.1), (2, vi (q13.2 0 0 26)), (1, vi q1.1), (0, vr 0 0)] [vi q19.1, vi q1.1, vi 0, vi (q13.2 0 0 26), vr 0 0] C f_x_Mo_expression_38_6 rfl ?_
      obtain ⟨q21, e22, h⟩ := obd h
      refine m_callV C Rm Y [vi (q13.2 0 0 26), vi 0, vi q1.1, vi q19.1] [] (x_Mo_node l D B H0 ad _ (q13.2 0 0 26) 0 q1.1 q19.1 hS _ _ e22) cl_Mo_218 rfl (by decide) rfl rfl e_x_Mo_expression_44 rfl rfl rfl ⟨by show _ ≤ ((fr + 24) : Nat); omega, by show _ ≤ ((lo + 900) : Nat); omega⟩ ?_
      rintro _ _ ⟨rfl, rfl⟩
      show JM g D ad w0 q21.2 47 [(3, vi q19.1), (2, vi (q13.2 0 0 26)), (1, vi q1.1), (0, vr 0 0)] [vi q21.1]
      exact m_iret C Rm E e_x_Mo_expression_47 (fin1 h)
    · have h := ifp c16 h
      refine m_blk 24 [(1, vi q1.1), (0, vr 0 0)] [vi q1.1] C f_x_Mo_expression_23_1 rfl ?_
      exact m_iret C Rm E e_x_Mo_expression_24 (fin1 h)

def f_Mo_one (one : mA → Option (Int × mA)) (A : mA)  : Option (Int × mA) := (if g32 (A 0 0 31) then (if (A 0 0 31) = 0 then (if g32 (A 0 0 25) then (if (A 0 0 25) = 3 then (Option.bind (f_Mo_node A 0 (A 0 0 26) (-1) (-1)) (fun q6 => (Option.bind (f_Mo_next q6.2 ) (fun q8 => (some (q6.1, q8.2)))))) else (if (A 0 0 25) = 1 then (Option.bind (f_Mo_node A 1 (A 0 0 26) (-1) (-1)) (fun q56 => (Option.bind (f_Mo_next q56.2 ) (fun q58 => (some (q56.1, q58.2)))))) else (Option.bind (f_Mo_isSign A 45) (fun q11 => (if g32 q11.1 then (if q11.1 = 0 then (Option.bind (f_Mo_isSign q11.2 40) (fun q33 => (if g32 q33.1 then (if q33.1 = 0 then (some (0, (mu q33.2 0 0 31 1))) else (if g32 (q33.2 0 0 27) then (if (q33.2 0 0 27) = 4 then (some (0, (mu q33.2 0 0 31 1))) else (Option.bind (f_Mo_isSign q33.2 45) (fun q39 => (Option.bind (f_Mo_next (mu q39.2 0 0 27 ((q39.2 0 0 27) + 1)) ) (fun q41 => (if g32 q39.1 then (if q39.1 = 0 then (Option.bind (f_Mo_expression one q41.2 ) (fun q45 => (Option.bind (f_Mo_need (mu q45.2 0 0 27 ((q45.2 0 0 27) - 1)) 41) (fun q48 => (some (q45.1, q48.2)))))) else (Option.bind (one q41.2 ) (fun q50 => (Option.bind (f_Mo_node (mu q50.2 0 0 27 ((q50.2 0 0 27) - 1)) 2 0 q50.1 (-1)) (fun q53 => (some (q53.1, q53.2))))))) else none)))))) else none)) else none))) else (if g32 (q11.2 0 0 27) then (if (q11.2 0 0 27) = 4 then (some (0, (mu q11.2 0 0 31 1))) else (Option.bind (f_Mo_isSign q11.2 45) (fun q17 => (Option.bind (f_Mo_next (mu q17.2 0 0 27 ((q17.2 0 0 27) + 1)) ) (fun q19 => (if g32 q17.1 then (if q17.1 = 0 then (Option.bind (f_Mo_expression one q19.2 ) (fun q23 => (Option.bind (f_Mo_need (mu q23.2 0 0 27 ((q23.2 0 0 27) - 1)) 41) (fun q26 => (some (q23.1, q26.2)))))) else (Option.bind (one q19.2 ) (fun q28 => (Option.bind (f_Mo_node (mu q28.2 0 0 27 ((q28.2 0 0 27) - 1)) 2 0 q28.1 (-1)) (fun q31 => (some (q31.1, q31.2))))))) else none)))))) else none)) else none))))) else none) else (some (0, A))) else none)
theorem f_x_Mo_one_0_1 : mblkB b_Mo_one [(0, .aload_n 0, vi 0)] = true := by decide +kernel
theorem e_x_Mo_one_1 : decode b_Mo_one 1 = .ok (.getfield 155, 3) := by decide +kernel
theorem e_x_Mo_one_4 : decode b_Mo_one 4 = .ok (.ifCond .eq 5, 3) := by decide +kernel
theorem f_x_Mo_one_9_1 : mblkB b_Mo_one [(9, .aload_n 0, vi 0)] = true := by decide +kernel
theorem e_x_Mo_one_10 : decode b_Mo_one 10 = .ok (.getfield 159, 3) := by decide +kernel
theorem f_x_Mo_one_13_1 : mblkB b_Mo_one [(13, .iconst 3, vi 3)] = true := by decide +kernel
theorem e_x_Mo_one_14 : decode b_Mo_one 14 = .ok (.if_icmp .eq 11, 3) := by decide +kernel
theorem f_x_Mo_one_25_2 : mblkB b_Mo_one [(25, .aload_n 0, vi 0), (26, .aload_n 0, vi 0)] = true := by decide +kernel
theorem e_x_Mo_one_27 : decode b_Mo_one 27 = .ok (.getfield 159, 3) := by decide +kernel
theorem f_x_Mo_one_30_1 : mblkB b_Mo_one [(30, .iconst 3, vi 3)] = true := by decide +kernel
theorem e_x_Mo_one_31 : decode b_Mo_one 31 = .ok (.if_icmp .ne 7, 3) := by decide +kernel
theorem f_x_Mo_one_34_2 : mblkB b_Mo_one [(34, .iconst 0, vi 0), (35, .goto 4, vi 39)] = true := by decide +kernel
theorem f_x_Mo_one_39_1 : mblkB b_Mo_one [(39, .aload_n 0, vi 0)] = true := by decide +kernel
theorem e_x_Mo_one_40 : decode b_Mo_one 40 = .ok (.getfield 165, 3) := by decide +kernel
theorem f_x_Mo_one_43_2 : mblkB b_Mo_one [(43, .iconst (-1), vi (-1)), (44, .iconst (-1), vi (-1))] = true := by decide +kernel
theorem e_x_Mo_one_45 : decode b_Mo_one 45 = .ok (.invokevirtual 218, 3) := by decide +kernel
theorem f_x_Mo_one_48_2 : mblkB b_Mo_one [(48, .istore_n 1, vi 0), (49, .aload_n 0, vi 0)] = true := by decide +kernel
theorem e_x_Mo_one_50 : decode b_Mo_one 50 = .ok (.invokevirtual 176, 3) := by decide +kernel
theorem f_x_Mo_one_53_1 : mblkB b_Mo_one [(53, .iload_n 1, vi 0)] = true := by decide +kernel
theorem e_x_Mo_one_54 : decode b_Mo_one 54 = .ok (.ireturn, 1) := by decide +kernel
theorem f_x_Mo_one_17_1 : mblkB b_Mo_one [(17, .aload_n 0, vi 0)] = true := by decide +kernel
theorem e_x_Mo_one_18 : decode b_Mo_one 18 = .ok (.getfield 159, 3) := by decide +kernel
theorem f_x_Mo_one_21_1 : mblkB b_Mo_one [(21, .iconst 1, vi 1)] = true := by decide +kernel
theorem e_x_Mo_one_22 : decode b_Mo_one 22 = .ok (.if_icmp .ne 33, 3) := by decide +kernel
theorem f_x_Mo_one_55_2 : mblkB b_Mo_one [(55, .aload_n 0, vi 0), (56, .bipush 45, vi 45)] = true := by decide +kernel
theorem e_x_Mo_one_58 : decode b_Mo_one 58 = .ok (.invokevirtual 173, 3) := by decide +kernel
theorem e_x_Mo_one_61 : decode b_Mo_one 61 = .ok (.ifCond .ne 12, 3) := by decide +kernel
theorem f_x_Mo_one_73_1 : mblkB b_Mo_one [(73, .aload_n 0, vi 0)] = true := by decide +kernel
theorem e_x_Mo_one_74 : decode b_Mo_one 74 = .ok (.getfield 182, 3) := by decide +kernel
theorem f_x_Mo_one_77_1 : mblkB b_Mo_one [(77, .iconst 4, vi 4)] = true := by decide +kernel
theorem e_x_Mo_one_78 : decode b_Mo_one 78 = .ok (.if_icmp .ne 10, 3) := by decide +kernel
theorem f_x_Mo_one_88_2 : mblkB b_Mo_one [(88, .aload_n 0, vi 0), (89, .bipush 45, vi 45)] = true := by decide +kernel
theorem e_x_Mo_one_91 : decode b_Mo_one 91 = .ok (.invokevirtual 173, 3) := by decide +kernel
theorem f_x_Mo_one_94_3 : mblkB b_Mo_one [(94, .istore_n 1, vi 0), (95, .aload_n 0, vi 0), (96, .dup, vi 0)] = true := by decide +kernel
theorem e_x_Mo_one_97 : decode b_Mo_one 97 = .ok (.getfield 182, 3) := by decide +kernel
theorem f_x_Mo_one_100_2 : mblkB b_Mo_one [(100, .iconst 1, vi 1), (101, .iadd, vi 0)] = true := by decide +kernel
theorem e_x_Mo_one_102 : decode b_Mo_one 102 = .ok (.putfield 182, 3) := by decide +kernel
theorem f_x_Mo_one_105_1 : mblkB b_Mo_one [(105, .aload_n 0, vi 0)] = true := by decide +kernel
theorem e_x_Mo_one_106 : decode b_Mo_one 106 = .ok (.invokevirtual 176, 3) := by decide +kernel
theorem f_x_Mo_one_109_1 : mblkB b_Mo_one [(109, .iload_n 1, vi 0)] = true := by decide +kernel
theorem e_x_Mo_one_110 : decode b_Mo_one 110 = .ok (.ifCond .eq 10, 3) := by decide +kernel
theorem f_x_Mo_one_120_1 : mblkB b_Mo_one [(120, .aload_n 0, vi 0)] = true := by decide +kernel
theorem e_x_Mo_one_121 : decode b_Mo_one 121 = .ok (.invokevirtual 206, 3) := by decide +kernel
theorem f_x_Mo_one_124_3 : mblkB b_Mo_one [(124, .istore_n 2, vi 0), (125, .aload_n 0, vi 0), (126, .dup, vi 0)] = true := by decide +kernel
theorem e_x_Mo_one_127 : decode b_Mo_one 127 = .ok (.getfield 182, 3) := by decide +kernel
theorem f_x_Mo_one_130_2 : mblkB b_Mo_one [(130, .iconst 1, vi 1), (131, .isub, vi 0)] = true := by decide +kernel
theorem e_x_Mo_one_132 : decode b_Mo_one 132 = .ok (.putfield 182, 3) := by decide +kernel
theorem f_x_Mo_one_135_1 : mblkB b_Mo_one [(135, .iload_n 1, vi 0)] = true := by decide +kernel
theorem e_x_Mo_one_136 : decode b_Mo_one 136 = .ok (.ifCond .eq 12, 3) := by decide +kernel
theorem f_x_Mo_one_148_2 : mblkB b_Mo_one [(148, .aload_n 0, vi 0), (149, .bipush 41, vi 41)] = true := by decide +kernel
theorem e_x_Mo_one_151 : decode b_Mo_one 151 = .ok (.invokevirtual 188, 3) := by decide +kernel
theorem f_x_Mo_one_154_1 : mblkB b_Mo_one [(154, .iload_n 2, vi 0)] = true := by decide +kernel
theorem e_x_Mo_one_155 : decode b_Mo_one 155 = .ok (.ireturn, 1) := by decide +kernel
theorem f_x_Mo_one_113_1 : mblkB b_Mo_one [(113, .aload_n 0, vi 0)] = true := by decide +kernel
theorem e_x_Mo_one_114 : decode b_Mo_one 114 = .ok (.invokevirtual 225, 3) := by decide +kernel
theorem f_x_Mo_one_117_1 : mblkB b_Mo_one [(117, .goto 7, vi 124)] = true := by decide +kernel
theorem f_x_Mo_one_139_5 : mblkB b_Mo_one [(139, .aload_n 0, vi 0), (140, .iconst 2, vi 2), (141, .iconst 0, vi 0), (142, .iload_n 2, vi 0), (143, .iconst (-1), vi (-1))] = true := by decide +kernel
theorem e_x_Mo_one_144 : decode b_Mo_one 144 = .ok (.invokevirtual 218, 3) := by decide +kernel
theorem e_x_Mo_one_147 : decode b_Mo_one 147 = .ok (.ireturn, 1) := by decide +kernel
theorem f_x_Mo_one_81_2 : mblkB b_Mo_one [(81, .aload_n 0, vi 0), (82, .iconst 1, vi 1)] = true := by decide +kernel
theorem e_x_Mo_one_83 : decode b_Mo_one 83 = .ok (.putfield 155, 3) := by decide +kernel
theorem f_x_Mo_one_86_1 : mblkB b_Mo_one [(86, .iconst 0, vi 0)] = true := by decide +kernel
theorem e_x_Mo_one_87 : decode b_Mo_one 87 = .ok (.ireturn, 1) := by decide +kernel
theorem f_x_Mo_one_64_2 : mblkB b_Mo_one [(64, .aload_n 0, vi 0), (65, .bipush 40, vi 40)] = true := by decide +kernel
theorem e_x_Mo_one_67 : decode b_Mo_one 67 = .ok (.invokevirtual 173, 3) := by decide +kernel
theorem e_x_Mo_one_70 : decode b_Mo_one 70 = .ok (.ifCond .eq 11, 3) := by decide +kernel
theorem f_x_Mo_one_38_2 : mblkB b_Mo_one [(38, .iconst 1, vi 1), (39, .aload_n 0, vi 0)] = true := by decide +kernel
theorem f_x_Mo_one_7_1 : mblkB b_Mo_one [(7, .iconst 0, vi 0)] = true := by decide +kernel
theorem e_x_Mo_one_8 : decode b_Mo_one 8 = .ok (.ireturn, 1) := by decide +kernel
set_option maxHeartbeats 4000000 in
set_option maxRecDepth 20000 in
theorem x_Mo_one {one : mA → Option (Int × mA)} {fr lo : Nat} (hone : ∀ (l : Launch) (D : va_G) (B : Nat) (H0 : Heap) (ad : mAd) (A : mA)  (hS : mStr D ad) (r9 : Int) (A9 : mA), one A  = some (r9, A9) → mMet l D B H0 ad y_Mo_one b_Mo_one 3 (some .int) fr lo [vr 0 0] A (fun v A' => v = some (vi r9) ∧ A' = A9)) : ∀ (l : Launch) (D : va_G) (B : Nat) (H0 : Heap) (ad : mAd) (A : mA)  (hS : mStr D ad) (r9 : Int) (A9 : mA), f_Mo_one one A  = some (r9, A9) → mMet l D B H0 ad y_Mo_one b_Mo_one 3 (some .int) (fr + 32) (lo + 1200) [vr 0 0] A (fun v A' => v = some (vi r9) ∧ A' = A9) := by
  intro l D B H0 ad A   hS r9 A9 h
  refine m_met (by decide) rfl (fun g w0 C Rm Y E => ?_)
  show JM g D ad w0 A 0 [(0, vr 0 0)] []
  unfold f_Mo_one at h
  refine m_blk 1 [(0, vr 0 0)] [vr 0 0] C f_x_Mo_one_0_1 rfl ?_
  refine m_geti C e_x_Mo_one_1 fg_Mo_155 rfl (by decide) rfl (A 0 0 31) rfl ?_
  obtain ⟨c1, h⟩ := igd h
  refine m_if_eq (tgt := 9) C e_x_Mo_one_4 (by decide) c1 (fun c2 => ?_) (fun c2 => ?_)
  · have h := ifp c2 h
    refine m_blk 10 [(0, vr 0 0)] [vr 0 0] C f_x_Mo_one_9_1 rfl ?_
    refine m_geti C e_x_Mo_one_10 fg_Mo_159 rfl (by decide) rfl (A 0 0 25) rfl ?_
    refine m_blk 14 [(0, vr 0 0)] [vi 3, vi (A 0 0 25)] C f_x_Mo_one_13_1 rfl ?_
    obtain ⟨c3, h⟩ := igd h
    refine m_icmp_eq (tgt := 25) C e_x_Mo_one_14 (by decide) c3 (by decide) (fun c4 => ?_) (fun c4 => ?_)
    · have h := ifp c4 h
      refine m_blk 27 [(0, vr 0 0)] [vr 0 0, vr 0 0] C f_x_Mo_one_25_2 rfl ?_
      refine m_geti C e_x_Mo_one_27 fg_Mo_159 rfl (by decide) rfl (A 0 0 25) rfl ?_
      refine m_blk 31 [(0, vr 0 0)] [vi 3, vi (A 0 0 25), vr 0 0] C f_x_Mo_one_30_1 rfl ?_
      refine m_icmp_ne (tgt := 38) C e_x_Mo_one_31 (by decide) c3 (by decide) (fun c5 => (by omega : False).elim) (fun c5 => ?_)
      refine m_blk 39 [(0, vr 0 0)] [vi 0, vr 0 0] C f_x_Mo_one_34_2 rfl ?_
      refine m_blk 40 [(0, vr 0 0)] [vr 0 0, vi 0, vr 0 0] C f_x_Mo_one_39_1 rfl ?_
      refine m_geti C e_x_Mo_one_40 fg_Mo_165 rfl (by decide) rfl (A 0 0 26) rfl ?_
      refine m_blk 45 [(0, vr 0 0)] [vi (-1), vi (-1), vi (A 0 0 26), vi 0, vr 0 0] C f_x_Mo_one_43_2 rfl ?_
      obtain ⟨q6, e7, h⟩ := obd h
      refine m_callV C Rm Y [vi 0, vi (A 0 0 26), vi (-1), vi (-1)] [] (x_Mo_node l D B H0 ad _ 0 (A 0 0 26) (-1) (-1) hS _ _ e7) cl_Mo_218 rfl (by decide) rfl rfl e_x_Mo_one_45 rfl rfl rfl ⟨by show _ ≤ ((fr + 32) : Nat); omega, by show _ ≤ ((lo + 1200) : Nat); omega⟩ ?_
      rintro _ _ ⟨rfl, rfl⟩
      show JM g D ad w0 q6.2 48 [(0, vr 0 0)] [vi q6.1]
      refine m_blk 50 [(1, vi q6.1), (0, vr 0 0)] [vr 0 0] C f_x_Mo_one_48_2 rfl ?_
      obtain ⟨q8, e9, h⟩ := obd h
      refine m_callV C Rm Y [] [] (x_Mo_next l D B H0 ad _  hS _ _ e9) cl_Mo_176 rfl (by decide) rfl rfl e_x_Mo_one_50 rfl rfl rfl ⟨by show _ ≤ ((fr + 32) : Nat); omega, by show _ ≤ ((lo + 1200) : Nat); omega⟩ ?_
      rintro _ _ ⟨rfl, rfl⟩
      show JM g D ad w0 q8.2 53 [(1, vi q6.1), (0, vr 0 0)] []
      refine m_blk 54 [(1, vi q6.1), (0, vr 0 0)] [vi q6.1] C f_x_Mo_one_53_1 rfl ?_
      exact m_iret C Rm E e_x_Mo_one_54 (fin1 h)
    · have h := ifn c4 h
      refine m_blk 18 [(0, vr 0 0)] [vr 0 0] C f_x_Mo_one_17_1 rfl ?_
      refine m_geti C e_x_Mo_one_18 fg_Mo_159 rfl (by decide) rfl (A 0 0 25) rfl ?_
      refine m_blk 22 [(0, vr 0 0)] [vi 1, vi (A 0 0 25)] C f_x_Mo_one_21_1 rfl ?_
      refine m_icmp_ne (tgt := 55) C e_x_Mo_one_22 (by decide) c3 (by decide) (fun c10 => ?_) (fun c10 => ?_)
      · have h := ifn c10 h
        refine m_blk 58 [(0, vr 0 0)] [vi 45, vr 0 0] C f_x_Mo_one_55_2 rfl ?_
        obtain ⟨q11, e12, h⟩ := obd h
        refine m_callV C Rm Y [vi 45] [] (x_Mo_isSign l D B H0 ad _ 45 hS _ _ e12) cl_Mo_173 rfl (by decide) rfl rfl e_x_Mo_one_58 rfl rfl rfl ⟨by show _ ≤ ((fr + 32) : Nat); omega, by show _ ≤ ((lo + 1200) : Nat); omega⟩ ?_
        rintro _ _ ⟨rfl, rfl⟩
        show JM g D ad w0 q11.2 61 [(0, vr 0 0)] [vi q11.1]
        obtain ⟨c13, h⟩ := igd h
        refine m_if_ne (tgt := 73) C e_x_Mo_one_61 (by decide) c13 (fun c14 => ?_) (fun c14 => ?_)
        · have h := ifn c14 h
          refine m_blk 74 [(0, vr 0 0)] [vr 0 0] C f_x_Mo_one_73_1 rfl ?_
          refine m_geti C e_x_Mo_one_74 fg_Mo_182 rfl (by decide) rfl (q11.2 0 0 27) rfl ?_
          refine m_blk 78 [(0, vr 0 0)] [vi 4, vi (q11.2 0 0 27)] C f_x_Mo_one_77_1 rfl ?_
          obtain ⟨c15, h⟩ := igd h
          refine m_icmp_ne (tgt := 88) C e_x_Mo_one_78 (by decide) c15 (by decide) (fun c16 => ?_) (fun c16 => ?_)
          · have h := ifn c16 h
            refine m_blk 91 [(0, vr 0 0)] [vi 45, vr 0 0] C f_x_Mo_one_88_2 rfl ?_
            obtain ⟨q17, e18, h⟩ := obd h
            refine m_callV C Rm Y [vi 45] [] (x_Mo_isSign l D B H0 ad _ 45 hS _ _ e18) cl_Mo_173 rfl (by decide) rfl rfl e_x_Mo_one_91 rfl rfl rfl ⟨by show _ ≤ ((fr + 32) : Nat); omega, by show _ ≤ ((lo + 1200) : Nat); omega⟩ ?_
            rintro _ _ ⟨rfl, rfl⟩
            show JM g D ad w0 q17.2 94 [(0, vr 0 0)] [vi q17.1]
            refine m_blk 97 [(1, vi q17.1), (0, vr 0 0)] [vr 0 0, vr 0 0] C f_x_Mo_one_94_3 rfl ?_
            refine m_geti C e_x_Mo_one_97 fg_Mo_182 rfl (by decide) rfl (q17.2 0 0 27) rfl ?_
            refine m_blk 102 [(1, vi q17.1), (0, vr 0 0)] [vi ((q17.2 0 0 27) + 1), vr 0 0] C f_x_Mo_one_100_2 rfl ?_
            refine m_puti C e_x_Mo_one_102 fp_Mo_182 rfl (by decide) rfl ?_
            refine m_blk 106 [(1, vi q17.1), (0, vr 0 0)] [vr 0 0] C f_x_Mo_one_105_1 rfl ?_
            obtain ⟨q19, e20, h⟩ := obd h
            refine m_callV C Rm Y [] [] (x_Mo_next l D B H0 ad _  hS _ _ e20) cl_Mo_176 rfl (by decide) rfl rfl e_x_Mo_one_106 rfl rfl rfl ⟨by show _ ≤ ((fr + 32) : Nat); omega, by show _ ≤ ((lo + 1200) : Nat); omega⟩ ?_
            rintro _ _ ⟨rfl, rfl⟩
            show JM g D ad w0 q19.2 109 [(1, vi q17.1), (0, vr 0 0)] []
            refine m_blk 110 [(1, vi q17.1), (0, vr 0 0)] [vi q17.1] C f_x_Mo_one_109_1 rfl ?_
            obtain ⟨c21, h⟩ := igd h
            refine m_if_eq (tgt := 120) C e_x_Mo_one_110 (by decide) c21 (fun c22 => ?_) (fun c22 => ?_)
            · have h := ifp c22 h
              refine m_blk 121 [(1, vi q17.1), (0, vr 0 0)] [vr 0 0] C f_x_Mo_one_120_1 rfl ?_
              obtain ⟨q23, e24, h⟩ := obd h
              refine m_callV C Rm Y [] [] (x_Mo_expression hone l D B H0 ad _  hS _ _ e24) cl_Mo_206 rfl (by decide) rfl rfl e_x_Mo_one_121 rfl rfl rfl ⟨by show _ ≤ ((fr + 32) : Nat); omega, by show _ ≤ ((lo + 1200) : Nat); omega⟩ ?_
              rintro _ _ ⟨rfl, rfl⟩
              show JM g D ad w0 q23.2 124 [(1, vi q17.1), (0, vr 0 0)] [vi q23.1]
              refine m_blk 127 [(2, vi q23.1), (1, vi q17.1), (0, vr 0 0)] [vr 0 0, vr 0 0] C f_x_Mo_one_124_3 rfl ?_
              refine m_geti C e_x_Mo_one_127 fg_Mo_182 rfl (by decide) rfl (q23.2 0 0 27) rfl ?_
              refine m_blk 132 [(2, vi q23.1), (1, vi q17.1), (0, vr 0 0)] [vi ((q23.2 0 0 27) - 1), vr 0 0] C f_x_Mo_one_130_2 rfl ?_
              refine m_puti C e_x_Mo_one_132 fp_Mo_182 rfl (by decide) rfl ?_
              refine m_blk 136 [(2, vi q23.1), (1, vi q17.1), (0, vr 0 0)] [vi q17.1] C f_x_Mo_one_135_1 rfl ?_
              refine m_if_eq (tgt := 148) C e_x_Mo_one_136 (by decide) c21 (fun c25 => ?_) (fun c25 => (by omega : False).elim)
              refine m_blk 151 [(2, vi q23.1), (1, vi q17.1), (0, vr 0 0)] [vi 41, vr 0 0] C f_x_Mo_one_148_2 rfl ?_
              obtain ⟨q26, e27, h⟩ := obd h
              refine m_callV C Rm Y [vi 41] [] (x_Mo_need l D B H0 ad _ 41 hS _ _ e27) cl_Mo_188 rfl (by decide) rfl rfl e_x_Mo_one_151 rfl rfl rfl ⟨by show _ ≤ ((fr + 32) : Nat); omega, by show _ ≤ ((lo + 1200) : Nat); omega⟩ ?_
              rintro _ _ ⟨rfl, rfl⟩
              show JM g D ad w0 q26.2 154 [(2, vi q23.1), (1, vi q17.1), (0, vr 0 0)] []
              refine m_blk 155 [(2, vi q23.1), (1, vi q17.1), (0, vr 0 0)] [vi q23.1] C f_x_Mo_one_154_1 rfl ?_
              exact m_iret C Rm E e_x_Mo_one_155 (fin1 h)
            · have h := ifn c22 h
              refine m_blk 114 [(1, vi q17.1), (0, vr 0 0)] [vr 0 0] C f_x_Mo_one_113_1 rfl ?_
              obtain ⟨q28, e29, h⟩ := obd h
              refine m_callV C Rm Y [] [] (hone l D B H0 ad _  hS _ _ e29) cl_Mo_225 rfl (by decide) rfl rfl e_x_Mo_one_114 rfl rfl rfl ⟨by show _ ≤ ((fr + 32) : Nat); omega, by show _ ≤ ((lo + 1200) : Nat); omega⟩ ?_
              rintro _ _ ⟨rfl, rfl⟩
              show JM g D ad w0 q28.2 117 [(1, vi q17.1), (0, vr 0 0)] [vi q28.1]
              refine m_blk 124 [(1, vi q17.1), (0, vr 0 0)] [vi q28.1] C f_x_Mo_one_117_1 rfl ?_
              refine m_blk 127 [(2, vi q28.1), (1, vi q17.1), (0, vr 0 0)] [vr 0 0, vr 0 0] C f_x_Mo_one_124_3 rfl ?_
              refine m_geti C e_x_Mo_one_127 fg_Mo_182 rfl (by decide) rfl (q28.2 0 0 27) rfl ?_
              refine m_blk 132 [(2, vi q28.1), (1, vi q17.1), (0, vr 0 0)] [vi ((q28.2 0 0 27) - 1), vr 0 0] C f_x_Mo_one_130_2 rfl ?_
              refine m_puti C e_x_Mo_one_132 fp_Mo_182 rfl (by decide) rfl ?_
              refine m_blk 136 [(2, vi q28.1), (1, vi q17.1), (0, vr 0 0)] [vi q17.1] C f_x_Mo_one_135_1 rfl ?_
              refine m_if_eq (tgt := 148) C e_x_Mo_one_136 (by decide) c21 (fun c30 => (by omega : False).elim) (fun c30 => ?_)
              refine m_blk 144 [(2, vi q28.1), (1, vi q17.1), (0, vr 0 0)] [vi (-1), vi q28.1, vi 0, vi 2, vr 0 0] C f_x_Mo_one_139_5 rfl ?_
              obtain ⟨q31, e32, h⟩ := obd h
              refine m_callV C Rm Y [vi 2, vi 0, vi q28.1, vi (-1)] [] (x_Mo_node l D B H0 ad _ 2 0 q28.1 (-1) hS _ _ e32) cl_Mo_218 rfl (by decide) rfl rfl e_x_Mo_one_144 rfl rfl rfl ⟨by show _ ≤ ((fr + 32) : Nat); omega, by show _ ≤ ((lo + 1200) : Nat); omega⟩ ?_
              rintro _ _ ⟨rfl, rfl⟩
              show JM g D ad w0 q31.2 147 [(2, vi q28.1), (1, vi q17.1), (0, vr 0 0)] [vi q31.1]
              exact m_iret C Rm E e_x_Mo_one_147 (fin1 h)
          · have h := ifp c16 h
            refine m_blk 83 [(0, vr 0 0)] [vi 1, vr 0 0] C f_x_Mo_one_81_2 rfl ?_
            refine m_putz C e_x_Mo_one_83 fp_Mo_155 rfl (by decide) rfl (Or.inr rfl) ?_
            refine m_blk 87 [(0, vr 0 0)] [vi 0] C f_x_Mo_one_86_1 rfl ?_
            exact m_iret C Rm E e_x_Mo_one_87 (fin1 h)
        · have h := ifp c14 h
          refine m_blk 67 [(0, vr 0 0)] [vi 40, vr 0 0] C f_x_Mo_one_64_2 rfl ?_
          obtain ⟨q33, e34, h⟩ := obd h
          refine m_callV C Rm Y [vi 40] [] (x_Mo_isSign l D B H0 ad _ 40 hS _ _ e34) cl_Mo_173 rfl (by decide) rfl rfl e_x_Mo_one_67 rfl rfl rfl ⟨by show _ ≤ ((fr + 32) : Nat); omega, by show _ ≤ ((lo + 1200) : Nat); omega⟩ ?_
          rintro _ _ ⟨rfl, rfl⟩
          show JM g D ad w0 q33.2 70 [(0, vr 0 0)] [vi q33.1]
          obtain ⟨c35, h⟩ := igd h
          refine m_if_eq (tgt := 81) C e_x_Mo_one_70 (by decide) c35 (fun c36 => ?_) (fun c36 => ?_)
          · have h := ifp c36 h
            refine m_blk 83 [(0, vr 0 0)] [vi 1, vr 0 0] C f_x_Mo_one_81_2 rfl ?_
            refine m_putz C e_x_Mo_one_83 fp_Mo_155 rfl (by decide) rfl (Or.inr rfl) ?_
            refine m_blk 87 [(0, vr 0 0)] [vi 0] C f_x_Mo_one_86_1 rfl ?_
            exact m_iret C Rm E e_x_Mo_one_87 (fin1 h)
          · have h := ifn c36 h
            refine m_blk 74 [(0, vr 0 0)] [vr 0 0] C f_x_Mo_one_73_1 rfl ?_
            refine m_geti C e_x_Mo_one_74 fg_Mo_182 rfl (by decide) rfl (q33.2 0 0 27) rfl ?_
            refine m_blk 78 [(0, vr 0 0)] [vi 4, vi (q33.2 0 0 27)] C f_x_Mo_one_77_1 rfl ?_
            obtain ⟨c37, h⟩ := igd h
            refine m_icmp_ne (tgt := 88) C e_x_Mo_one_78 (by decide) c37 (by decide) (fun c38 => ?_) (fun c38 => ?_)
            · have h := ifn c38 h
              refine m_blk 91 [(0, vr 0 0)] [vi 45, vr 0 0] C f_x_Mo_one_88_2 rfl ?_
              obtain ⟨q39, e40, h⟩ := obd h
              refine m_callV C Rm Y [vi 45] [] (x_Mo_isSign l D B H0 ad _ 45 hS _ _ e40) cl_Mo_173 rfl (by decide) rfl rfl e_x_Mo_one_91 rfl rfl rfl ⟨by show _ ≤ ((fr + 32) : Nat); omega, by show _ ≤ ((lo + 1200) : Nat); omega⟩ ?_
              rintro _ _ ⟨rfl, rfl⟩
              show JM g D ad w0 q39.2 94 [(0, vr 0 0)] [vi q39.1]
              refine m_blk 97 [(1, vi q39.1), (0, vr 0 0)] [vr 0 0, vr 0 0] C f_x_Mo_one_94_3 rfl ?_
              refine m_geti C e_x_Mo_one_97 fg_Mo_182 rfl (by decide) rfl (q39.2 0 0 27) rfl ?_
              refine m_blk 102 [(1, vi q39.1), (0, vr 0 0)] [vi ((q39.2 0 0 27) + 1), vr 0 0] C f_x_Mo_one_100_2 rfl ?_
              refine m_puti C e_x_Mo_one_102 fp_Mo_182 rfl (by decide) rfl ?_
              refine m_blk 106 [(1, vi q39.1), (0, vr 0 0)] [vr 0 0] C f_x_Mo_one_105_1 rfl ?_
              obtain ⟨q41, e42, h⟩ := obd h
              refine m_callV C Rm Y [] [] (x_Mo_next l D B H0 ad _  hS _ _ e42) cl_Mo_176 rfl (by decide) rfl rfl e_x_Mo_one_106 rfl rfl rfl ⟨by show _ ≤ ((fr + 32) : Nat); omega, by show _ ≤ ((lo + 1200) : Nat); omega⟩ ?_
              rintro _ _ ⟨rfl, rfl⟩
              show JM g D ad w0 q41.2 109 [(1, vi q39.1), (0, vr 0 0)] []
              refine m_blk 110 [(1, vi q39.1), (0, vr 0 0)] [vi q39.1] C f_x_Mo_one_109_1 rfl ?_
              obtain ⟨c43, h⟩ := igd h
              refine m_if_eq (tgt := 120) C e_x_Mo_one_110 (by decide) c43 (fun c44 => ?_) (fun c44 => ?_)
              · have h := ifp c44 h
                refine m_blk 121 [(1, vi q39.1), (0, vr 0 0)] [vr 0 0] C f_x_Mo_one_120_1 rfl ?_
                obtain ⟨q45, e46, h⟩ := obd h
                refine m_callV C Rm Y [] [] (x_Mo_expression hone l D B H0 ad _  hS _ _ e46) cl_Mo_206 rfl (by decide) rfl rfl e_x_Mo_one_121 rfl rfl rfl ⟨by show _ ≤ ((fr + 32) : Nat); omega, by show _ ≤ ((lo + 1200) : Nat); omega⟩ ?_
                rintro _ _ ⟨rfl, rfl⟩
                show JM g D ad w0 q45.2 124 [(1, vi q39.1), (0, vr 0 0)] [vi q45.1]
                refine m_blk 127 [(2, vi q45.1), (1, vi q39.1), (0, vr 0 0)] [vr 0 0, vr 0 0] C f_x_Mo_one_124_3 rfl ?_
                refine m_geti C e_x_Mo_one_127 fg_Mo_182 rfl (by decide) rfl (q45.2 0 0 27) rfl ?_
                refine m_blk 132 [(2, vi q45.1), (1, vi q39.1), (0, vr 0 0)] [vi ((q45.2 0 0 27) - 1), vr 0 0] C f_x_Mo_one_130_2 rfl ?_
                refine m_puti C e_x_Mo_one_132 fp_Mo_182 rfl (by decide) rfl ?_
                refine m_blk 136 [(2, vi q45.1), (1, vi q39.1), (0, vr 0 0)] [vi q39.1] C f_x_Mo_one_135_1 rfl ?_
                refine m_if_eq (tgt := 148) C e_x_Mo_one_136 (by decide) c43 (fun c47 => ?_) (fun c47 => (by omega : False).elim)
                refine m_blk 151 [(2, vi q45.1), (1, vi q39.1), (0, vr 0 0)] [vi 41, vr 0 0] C f_x_Mo_one_148_2 rfl ?_
                obtain ⟨q48, e49, h⟩ := obd h
                refine m_callV C Rm Y [vi 41] [] (x_Mo_need l D B H0 ad _ 41 hS _ _ e49) cl_Mo_188 rfl (by decide) rfl rfl e_x_Mo_one_151 rfl rfl rfl ⟨by show _ ≤ ((fr + 32) : Nat); omega, by show _ ≤ ((lo + 1200) : Nat); omega⟩ ?_
                rintro _ _ ⟨rfl, rfl⟩
                show JM g D ad w0 q48.2 154 [(2, vi q45.1), (1, vi q39.1), (0, vr 0 0)] []
                refine m_blk 155 [(2, vi q45.1), (1, vi q39.1), (0, vr 0 0)] [vi q45.1] C f_x_Mo_one_154_1 rfl ?_
                exact m_iret C Rm E e_x_Mo_one_155 (fin1 h)
              · have h := ifn c44 h
                refine m_blk 114 [(1, vi q39.1), (0, vr 0 0)] [vr 0 0] C f_x_Mo_one_113_1 rfl ?_
                obtain ⟨q50, e51, h⟩ := obd h
                refine m_callV C Rm Y [] [] (hone l D B H0 ad _  hS _ _ e51) cl_Mo_225 rfl (by decide) rfl rfl e_x_Mo_one_114 rfl rfl rfl ⟨by show _ ≤ ((fr + 32) : Nat); omega, by show _ ≤ ((lo + 1200) : Nat); omega⟩ ?_
                rintro _ _ ⟨rfl, rfl⟩
                show JM g D ad w0 q50.2 117 [(1, vi q39.1), (0, vr 0 0)] [vi q50.1]
                refine m_blk 124 [(1, vi q39.1), (0, vr 0 0)] [vi q50.1] C f_x_Mo_one_117_1 rfl ?_
                refine m_blk 127 [(2, vi q50.1), (1, vi q39.1), (0, vr 0 0)] [vr 0 0, vr 0 0] C f_x_Mo_one_124_3 rfl ?_
                refine m_geti C e_x_Mo_one_127 fg_Mo_182 rfl (by decide) rfl (q50.2 0 0 27) rfl ?_
                refine m_blk 132 [(2, vi q50.1), (1, vi q39.1), (0, vr 0 0)] [vi ((q50.2 0 0 27) - 1), vr 0 0] C f_x_Mo_one_130_2 rfl ?_
                refine m_puti C e_x_Mo_one_132 fp_Mo_182 rfl (by decide) rfl ?_
                refine m_blk 136 [(2, vi q50.1), (1, vi q39.1), (0, vr 0 0)] [vi q39.1] C f_x_Mo_one_135_1 rfl ?_
                refine m_if_eq (tgt := 148) C e_x_Mo_one_136 (by decide) c43 (fun c52 => (by omega : False).elim) (fun c52 => ?_)
                refine m_blk 144 [(2, vi q50.1), (1, vi q39.1), (0, vr 0 0)] [vi (-1), vi q50.1, vi 0, vi 2, vr 0 0] C f_x_Mo_one_139_5 rfl ?_
                obtain ⟨q53, e54, h⟩ := obd h
                refine m_callV C Rm Y [vi 2, vi 0, vi q50.1, vi (-1)] [] (x_Mo_node l D B H0 ad _ 2 0 q50.1 (-1) hS _ _ e54) cl_Mo_218 rfl (by decide) rfl rfl e_x_Mo_one_144 rfl rfl rfl ⟨by show _ ≤ ((fr + 32) : Nat); omega, by show _ ≤ ((lo + 1200) : Nat); omega⟩ ?_
                rintro _ _ ⟨rfl, rfl⟩
                show JM g D ad w0 q53.2 147 [(2, vi q50.1), (1, vi q39.1), (0, vr 0 0)] [vi q53.1]
                exact m_iret C Rm E e_x_Mo_one_147 (fin1 h)
            · have h := ifp c38 h
              refine m_blk 83 [(0, vr 0 0)] [vi 1, vr 0 0] C f_x_Mo_one_81_2 rfl ?_
              refine m_putz C e_x_Mo_one_83 fp_Mo_155 rfl (by decide) rfl (Or.inr rfl) ?_
              refine m_blk 87 [(0, vr 0 0)] [vi 0] C f_x_Mo_one_86_1 rfl ?_
              exact m_iret C Rm E e_x_Mo_one_87 (fin1 h)
      · have h := ifp c10 h
        refine m_blk 27 [(0, vr 0 0)] [vr 0 0, vr 0 0] C f_x_Mo_one_25_2 rfl ?_
        refine m_geti C e_x_Mo_one_27 fg_Mo_159 rfl (by decide) rfl (A 0 0 25) rfl ?_
        refine m_blk 31 [(0, vr 0 0)] [vi 3, vi (A 0 0 25), vr 0 0] C f_x_Mo_one_30_1 rfl ?_
        refine m_icmp_ne (tgt := 38) C e_x_Mo_one_31 (by decide) c3 (by decide) (fun c55 => ?_) (fun c55 => (by omega : False).elim)
        refine m_blk 40 [(0, vr 0 0)] [vr 0 0, vi 1, vr 0 0] C f_x_Mo_one_38_2 rfl ?_
        refine m_geti C e_x_Mo_one_40 fg_Mo_165 rfl (by decide) rfl (A 0 0 26) rfl ?_
        refine m_blk 45 [(0, vr 0 0)] [vi (-1), vi (-1), vi (A 0 0 26), vi 1, vr 0 0] C f_x_Mo_one_43_2 rfl ?_
        obtain ⟨q56, e57, h⟩ := obd h
        refine m_callV C Rm Y [vi 1, vi (A 0 0 26), vi (-1), vi (-1)] [] (x_Mo_node l D B H0 ad _ 1 (A 0 0 26) (-1) (-1) hS _ _ e57) cl_Mo_218 rfl (by decide) rfl rfl e_x_Mo_one_45 rfl rfl rfl ⟨by show _ ≤ ((fr + 32) : Nat); omega, by show _ ≤ ((lo + 1200) : Nat); omega⟩ ?_
        rintro _ _ ⟨rfl, rfl⟩
        show JM g D ad w0 q56.2 48 [(0, vr 0 0)] [vi q56.1]
        refine m_blk 50 [(1, vi q56.1), (0, vr 0 0)] [vr 0 0] C f_x_Mo_one_48_2 rfl ?_
        obtain ⟨q58, e59, h⟩ := obd h
        refine m_callV C Rm Y [] [] (x_Mo_next l D B H0 ad _  hS _ _ e59) cl_Mo_176 rfl (by decide) rfl rfl e_x_Mo_one_50 rfl rfl rfl ⟨by show _ ≤ ((fr + 32) : Nat); omega, by show _ ≤ ((lo + 1200) : Nat); omega⟩ ?_
        rintro _ _ ⟨rfl, rfl⟩
        show JM g D ad w0 q58.2 53 [(1, vi q56.1), (0, vr 0 0)] []
        refine m_blk 54 [(1, vi q56.1), (0, vr 0 0)] [vi q56.1] C f_x_Mo_one_53_1 rfl ?_
        exact m_iret C Rm E e_x_Mo_one_54 (fin1 h)
  · have h := ifn c2 h
    refine m_blk 8 [(0, vr 0 0)] [vi 0] C f_x_Mo_one_7_1 rfl ?_
    exact m_iret C Rm E e_x_Mo_one_8 (fin1 h)

def f_Mo_oneN : Nat → mA → Option (Int × mA)
  | 0, _ => none
  | n + 1, A => f_Mo_one (f_Mo_oneN n) A
theorem x_Mo_oneN : ∀ n : Nat, ∀ (l : Launch) (D : va_G) (B : Nat) (H0 : Heap) (ad : mAd) (A : mA)  (hS : mStr D ad) (r9 : Int) (A9 : mA), f_Mo_oneN n A  = some (r9, A9) → mMet l D B H0 ad y_Mo_one b_Mo_one 3 (some .int) (32 * n) (1200 * n) [vr 0 0] A (fun v A' => v = some (vi r9) ∧ A' = A9) := by
  intro n
  induction n with
  | zero => intro l D B H0 ad A hS r9 A9 h; cases h
  | succ n ih =>
    intro l D B H0 ad A hS r9 A9 h
    have k := x_Mo_one ih l D B H0 ad A hS r9 A9 h
    have e1 : 32 * (n + 1) = 32 * n + 32 := by omega
    have e2 : 1200 * (n + 1) = 1200 * n + 1200 := by omega
    rw [e1, e2]
    exact k
def f_Mo_lotsOf_8 : Nat → mA → Int → Int → Int → Int → Int → Option (Int × mA)
  | 0, _, _, _, _, _, _ => none
  | n + 1, A, b1, b2, b3, b4, b5 => (if g32 b5 then (if b5 = 0 then (if (0 ≤ b1 ∧ b1 < ((6 : Nat) : Int)) then (if (0 ≤ b2 ∧ b2 < ((16 : Nat) : Int)) then (if g32 b3 then (if b3 = 2 then (some (0, (mu A 36 b1.toNat b2.toNat b4))) else (if b3 = 4 then (some (0, (mu A 36 b1.toNat b2.toNat b4))) else (if b3 = 8 then (some (0, (mu A 36 b1.toNat b2.toNat b4))) else (if b3 = 16 then (some (0, (mu A 36 b1.toNat b2.toNat b4))) else (some (0, (mu (mu A 36 b1.toNat b2.toNat b4) 0 0 31 1))))))) else none) else none) else none) else (if g32 (A 0 0 31) then (if (A 0 0 31) = 0 then (if g32 b4 then (if b4 = 8 then (some (0, (mu A 0 0 31 1))) else (if b4 ≤ 0 then (Option.bind (f_Mo_takes A 3 0 9) (fun q24 => (Option.bind (f_Mo_need q24.2 58) (fun q26 => (Option.bind (f_Mo_takes q26.2 3 1 16) (fun q28 => (if g32 (q28.2 0 0 31) then (if (q28.2 0 0 31) = 0 then (if (0 ≤ b1 ∧ b1 < ((6 : Nat) : Int)) then (if (0 ≤ (q28.2 0 0 29) ∧ (q28.2 0 0 29) < ((120 : Nat) : Int)) then (Option.bind (f_Mo_isSign (mu (mu (mu q28.2 41 b1.toNat ((q28.2 0 0 29).toNat) q24.1) 42 b1.toNat ((q28.2 0 0 29).toNat) q28.1) 0 0 29 ((q28.2 0 0 29) + 1)) 44) (fun q36 => (f_Mo_lotsOf_8  n q36.2 b1 b2 (b3 + q28.1) (b4 + 1) q36.1))) else none) else none) else (some (0, q28.2))) else none))))))) else (Option.bind (f_Mo_next A ) (fun q38 => (Option.bind (f_Mo_takes q38.2 3 0 9) (fun q40 => (Option.bind (f_Mo_need q40.2 58) (fun q42 => (Option.bind (f_Mo_takes q42.2 3 1 16) (fun q44 => (if g32 (q44.2 0 0 31) then (if (q44.2 0 0 31) = 0 then (if (0 ≤ b1 ∧ b1 < ((6 : Nat) : Int)) then (if (0 ≤ (q44.2 0 0 29) ∧ (q44.2 0 0 29) < ((120 : Nat) : Int)) then (Option.bind (f_Mo_isSign (mu (mu (mu q44.2 41 b1.toNat ((q44.2 0 0 29).toNat) q40.1) 42 b1.toNat ((q44.2 0 0 29).toNat) q44.1) 0 0 29 ((q44.2 0 0 29) + 1)) 44) (fun q52 => (f_Mo_lotsOf_8  n q52.2 b1 b2 (b3 + q44.1) (b4 + 1) q52.1))) else none) else none) else (some (0, q44.2))) else none))))))))))) else none) else (if (0 ≤ b1 ∧ b1 < ((6 : Nat) : Int)) then (if (0 ≤ b2 ∧ b2 < ((16 : Nat) : Int)) then (if g32 b3 then (if b3 = 2 then (some (0, (mu A 36 b1.toNat b2.toNat b4))) else (if b3 = 4 then (some (0, (mu A 36 b1.toNat b2.toNat b4))) else (if b3 = 8 then (some (0, (mu A 36 b1.toNat b2.toNat b4))) else (if b3 = 16 then (some (0, (mu A 36 b1.toNat b2.toNat b4))) else (some (0, (mu (mu A 36 b1.toNat b2.toNat b4) 0 0 31 1))))))) else none) else none) else none)) else none)) else none)
def f_Mo_lotsOf (A : mA) (a0 : Int) (a1 : Int) : Option (Int × mA) := (f_Mo_lotsOf_8  20 A a0 a1 0 0 1)
theorem f_x_Mo_lotsOf_0_6 : mblkB b_Mo_lotsOf [(0, .iconst 0, vi 0), (1, .istore_n 3, vi 0), (2, .iconst 0, vi 0), (3, .istore 4, vi 0), (5, .iconst 1, vi 1), (6, .istore 5, vi 0)] = true := by decide +kernel
theorem f_x_Mo_lotsOf_8_1 : mblkB b_Mo_lotsOf [(8, .iload 5, vi 0)] = true := by decide +kernel
theorem e_x_Mo_lotsOf_10 : decode b_Mo_lotsOf 10 = .ok (.ifCond .eq 121, 3) := by decide +kernel
theorem f_x_Mo_lotsOf_131_1 : mblkB b_Mo_lotsOf [(131, .aload_n 0, vi 0)] = true := by decide +kernel
theorem e_x_Mo_lotsOf_132 : decode b_Mo_lotsOf 132 = .ok (.getfield 27, 3) := by decide +kernel
theorem f_x_Mo_lotsOf_135_1 : mblkB b_Mo_lotsOf [(135, .iload_n 1, vi 0)] = true := by decide +kernel
theorem e_x_Mo_lotsOf_136 : decode b_Mo_lotsOf 136 = .ok (.aaload, 1) := by decide +kernel
theorem f_x_Mo_lotsOf_137_2 : mblkB b_Mo_lotsOf [(137, .iload_n 2, vi 0), (138, .iload 4, vi 0)] = true := by decide +kernel
theorem e_x_Mo_lotsOf_140 : decode b_Mo_lotsOf 140 = .ok (.iastore, 1) := by decide +kernel
theorem f_x_Mo_lotsOf_141_2 : mblkB b_Mo_lotsOf [(141, .iload_n 3, vi 0), (142, .iconst 2, vi 2)] = true := by decide +kernel
theorem e_x_Mo_lotsOf_143 : decode b_Mo_lotsOf 143 = .ok (.if_icmp .eq 25, 3) := by decide +kernel
theorem e_x_Mo_lotsOf_168 : decode b_Mo_lotsOf 168 = .ok (.return_, 1) := by decide +kernel
theorem f_x_Mo_lotsOf_146_2 : mblkB b_Mo_lotsOf [(146, .iload_n 3, vi 0), (147, .iconst 4, vi 4)] = true := by decide +kernel
theorem e_x_Mo_lotsOf_148 : decode b_Mo_lotsOf 148 = .ok (.if_icmp .eq 20, 3) := by decide +kernel
theorem f_x_Mo_lotsOf_151_2 : mblkB b_Mo_lotsOf [(151, .iload_n 3, vi 0), (152, .bipush 8, vi 8)] = true := by decide +kernel
theorem e_x_Mo_lotsOf_154 : decode b_Mo_lotsOf 154 = .ok (.if_icmp .eq 14, 3) := by decide +kernel
theorem f_x_Mo_lotsOf_157_2 : mblkB b_Mo_lotsOf [(157, .iload_n 3, vi 0), (158, .bipush 16, vi 16)] = true := by decide +kernel
theorem e_x_Mo_lotsOf_160 : decode b_Mo_lotsOf 160 = .ok (.if_icmp .eq 8, 3) := by decide +kernel
theorem f_x_Mo_lotsOf_163_2 : mblkB b_Mo_lotsOf [(163, .aload_n 0, vi 0), (164, .iconst 1, vi 1)] = true := by decide +kernel
theorem e_x_Mo_lotsOf_165 : decode b_Mo_lotsOf 165 = .ok (.putfield 155, 3) := by decide +kernel
theorem f_x_Mo_lotsOf_13_1 : mblkB b_Mo_lotsOf [(13, .aload_n 0, vi 0)] = true := by decide +kernel
theorem e_x_Mo_lotsOf_14 : decode b_Mo_lotsOf 14 = .ok (.getfield 155, 3) := by decide +kernel
theorem e_x_Mo_lotsOf_17 : decode b_Mo_lotsOf 17 = .ok (.ifCond .ne 114, 3) := by decide +kernel
theorem f_x_Mo_lotsOf_20_2 : mblkB b_Mo_lotsOf [(20, .iload 4, vi 0), (22, .bipush 8, vi 8)] = true := by decide +kernel
theorem e_x_Mo_lotsOf_24 : decode b_Mo_lotsOf 24 = .ok (.if_icmp .ne 9, 3) := by decide +kernel
theorem f_x_Mo_lotsOf_33_1 : mblkB b_Mo_lotsOf [(33, .iload 4, vi 0)] = true := by decide +kernel
theorem e_x_Mo_lotsOf_35 : decode b_Mo_lotsOf 35 = .ok (.ifCond .le 7, 3) := by decide +kernel
theorem f_x_Mo_lotsOf_42_4 : mblkB b_Mo_lotsOf [(42, .aload_n 0, vi 0), (43, .iconst 3, vi 3), (44, .iconst 0, vi 0), (45, .bipush 9, vi 9)] = true := by decide +kernel
theorem e_x_Mo_lotsOf_47 : decode b_Mo_lotsOf 47 = .ok (.invokevirtual 198, 3) := by decide +kernel
theorem f_x_Mo_lotsOf_50_3 : mblkB b_Mo_lotsOf [(50, .istore 6, vi 0), (52, .aload_n 0, vi 0), (53, .bipush 58, vi 58)] = true := by decide +kernel
theorem e_x_Mo_lotsOf_55 : decode b_Mo_lotsOf 55 = .ok (.invokevirtual 188, 3) := by decide +kernel
theorem f_x_Mo_lotsOf_58_4 : mblkB b_Mo_lotsOf [(58, .aload_n 0, vi 0), (59, .iconst 3, vi 3), (60, .iconst 1, vi 1), (61, .bipush 16, vi 16)] = true := by decide +kernel
theorem e_x_Mo_lotsOf_63 : decode b_Mo_lotsOf 63 = .ok (.invokevirtual 198, 3) := by decide +kernel
theorem f_x_Mo_lotsOf_66_2 : mblkB b_Mo_lotsOf [(66, .istore 7, vi 0), (68, .aload_n 0, vi 0)] = true := by decide +kernel
theorem e_x_Mo_lotsOf_69 : decode b_Mo_lotsOf 69 = .ok (.getfield 155, 3) := by decide +kernel
theorem e_x_Mo_lotsOf_72 : decode b_Mo_lotsOf 72 = .ok (.ifCond .eq 4, 3) := by decide +kernel
theorem f_x_Mo_lotsOf_76_1 : mblkB b_Mo_lotsOf [(76, .aload_n 0, vi 0)] = true := by decide +kernel
theorem e_x_Mo_lotsOf_77 : decode b_Mo_lotsOf 77 = .ok (.getfield 42, 3) := by decide +kernel
theorem f_x_Mo_lotsOf_80_1 : mblkB b_Mo_lotsOf [(80, .iload_n 1, vi 0)] = true := by decide +kernel
theorem e_x_Mo_lotsOf_81 : decode b_Mo_lotsOf 81 = .ok (.aaload, 1) := by decide +kernel
theorem f_x_Mo_lotsOf_82_1 : mblkB b_Mo_lotsOf [(82, .aload_n 0, vi 0)] = true := by decide +kernel
theorem e_x_Mo_lotsOf_83 : decode b_Mo_lotsOf 83 = .ok (.getfield 195, 3) := by decide +kernel
theorem f_x_Mo_lotsOf_86_1 : mblkB b_Mo_lotsOf [(86, .iload 6, vi 0)] = true := by decide +kernel
theorem e_x_Mo_lotsOf_88 : decode b_Mo_lotsOf 88 = .ok (.iastore, 1) := by decide +kernel
theorem f_x_Mo_lotsOf_89_1 : mblkB b_Mo_lotsOf [(89, .aload_n 0, vi 0)] = true := by decide +kernel
theorem e_x_Mo_lotsOf_90 : decode b_Mo_lotsOf 90 = .ok (.getfield 45, 3) := by decide +kernel
theorem f_x_Mo_lotsOf_93_1 : mblkB b_Mo_lotsOf [(93, .iload_n 1, vi 0)] = true := by decide +kernel
theorem e_x_Mo_lotsOf_94 : decode b_Mo_lotsOf 94 = .ok (.aaload, 1) := by decide +kernel
theorem f_x_Mo_lotsOf_95_1 : mblkB b_Mo_lotsOf [(95, .aload_n 0, vi 0)] = true := by decide +kernel
theorem e_x_Mo_lotsOf_96 : decode b_Mo_lotsOf 96 = .ok (.getfield 195, 3) := by decide +kernel
theorem f_x_Mo_lotsOf_99_1 : mblkB b_Mo_lotsOf [(99, .iload 7, vi 0)] = true := by decide +kernel
theorem e_x_Mo_lotsOf_101 : decode b_Mo_lotsOf 101 = .ok (.iastore, 1) := by decide +kernel
theorem f_x_Mo_lotsOf_102_2 : mblkB b_Mo_lotsOf [(102, .aload_n 0, vi 0), (103, .dup, vi 0)] = true := by decide +kernel
theorem e_x_Mo_lotsOf_104 : decode b_Mo_lotsOf 104 = .ok (.getfield 195, 3) := by decide +kernel
theorem f_x_Mo_lotsOf_107_2 : mblkB b_Mo_lotsOf [(107, .iconst 1, vi 1), (108, .iadd, vi 0)] = true := by decide +kernel
theorem e_x_Mo_lotsOf_109 : decode b_Mo_lotsOf 109 = .ok (.putfield 195, 3) := by decide +kernel
theorem f_x_Mo_lotsOf_112_7 : mblkB b_Mo_lotsOf [(112, .iload_n 3, vi 0), (113, .iload 7, vi 0), (115, .iadd, vi 0), (116, .istore_n 3, vi 0), (117, .iinc 4 1, vi 1), (120, .aload_n 0, vi 0), (121, .bipush 44, vi 44)] = true := by decide +kernel
theorem e_x_Mo_lotsOf_123 : decode b_Mo_lotsOf 123 = .ok (.invokevirtual 173, 3) := by decide +kernel
theorem f_x_Mo_lotsOf_126_2 : mblkB b_Mo_lotsOf [(126, .istore 5, vi 0), (128, .goto (-120), vi 8)] = true := by decide +kernel
theorem e_x_Mo_lotsOf_75 : decode b_Mo_lotsOf 75 = .ok (.return_, 1) := by decide +kernel
theorem f_x_Mo_lotsOf_38_1 : mblkB b_Mo_lotsOf [(38, .aload_n 0, vi 0)] = true := by decide +kernel
theorem e_x_Mo_lotsOf_39 : decode b_Mo_lotsOf 39 = .ok (.invokevirtual 176, 3) := by decide +kernel
theorem f_x_Mo_lotsOf_27_2 : mblkB b_Mo_lotsOf [(27, .aload_n 0, vi 0), (28, .iconst 1, vi 1)] = true := by decide +kernel
theorem e_x_Mo_lotsOf_29 : decode b_Mo_lotsOf 29 = .ok (.putfield 155, 3) := by decide +kernel
theorem e_x_Mo_lotsOf_32 : decode b_Mo_lotsOf 32 = .ok (.return_, 1) := by decide +kernel
set_option maxHeartbeats 4000000 in
set_option maxRecDepth 20000 in
theorem x_Mo_lotsOf  : ∀ (l : Launch) (D : va_G) (B : Nat) (H0 : Heap) (ad : mAd) (A : mA) (a0 : Int) (a1 : Int) (hS : mStr D ad) (r9 : Int) (A9 : mA), f_Mo_lotsOf  A a0 a1 = some (r9, A9) → mMet l D B H0 ad y_Mo_lotsOf b_Mo_lotsOf 8 none 8 229 [vr 0 0, vi a0, vi a1] A (fun v A' => v = none ∧ A' = A9) := by
  intro l D B H0 ad A a0 a1  hS r9 A9 h
  refine m_met (by decide) rfl (fun g w0 C Rm Y E => ?_)
  have hd_8 : ∀ (n : Nat) (A : mA) (b1 : Int) (b2 : Int) (b3 : Int) (b4 : Int) (b5 : Int) , f_Mo_lotsOf_8  n A b1 b2 b3 b4 b5 = some (r9, A9) → JM g D ad w0 A 8 [(0, vr 0 0), (1, vi b1), (2, vi b2), (3, vi b3), (4, vi b4), (5, vi b5)] [] := by
    intro n
    induction n with
    | zero => intro A b1 b2 b3 b4 b5  h; cases h
    | succ n ih =>
      intro A b1 b2 b3 b4 b5  h
      unfold f_Mo_lotsOf_8 at h
      refine m_blk 10 [(0, vr 0 0), (1, vi b1), (2, vi b2), (3, vi b3), (4, vi b4), (5, vi b5)] [vi b5] C f_x_Mo_lotsOf_8_1 rfl ?_
      obtain ⟨c1, h⟩ := igd h
      refine m_if_eq (tgt := 131) C e_x_Mo_lotsOf_10 (by decide) c1 (fun c2 => ?_) (fun c2 => ?_)
      · have h := ifp c2 h
        refine m_blk 132 [(0, vr 0 0), (1, vi b1), (2, vi b2), (3, vi b3), (4, vi b4), (5, vi b5)] [vr 0 0] C f_x_Mo_lotsOf_131_1 rfl ?_
        refine m_getr C e_x_Mo_lotsOf_132 fg_Mo_27 rfl (by decide) rfl ?_
        refine m_blk 136 [(0, vr 0 0), (1, vi b1), (2, vi b2), (3, vi b3), (4, vi b4), (5, vi b5)] [vi b1, vr 16 0] C f_x_Mo_lotsOf_135_1 rfl ?_
        obtain ⟨c3, h⟩ := igd h
        have k4 : b1.toNat < 6 := by omega
        refine m_aald C b1.toNat e_x_Mo_lotsOf_136 rfl rfl rfl (by decide) (by decide) c3.1 c3.2 (mz _ _) ?_
        refine m_blk 140 [(0, vr 0 0), (1, vi b1), (2, vi b2), (3, vi b3), (4, vi b4), (5, vi b5)] [vi b4, vi b2, vr 36 b1.toNat] C f_x_Mo_lotsOf_137_2 rfl ?_
        obtain ⟨c5, h⟩ := igd h
        refine m_iast C e_x_Mo_lotsOf_140 rfl k4 (by decide) c5.1 c5.2 ?_
        refine m_blk 143 [(0, vr 0 0), (1, vi b1), (2, vi b2), (3, vi b3), (4, vi b4), (5, vi b5)] [vi 2, vi b3] C f_x_Mo_lotsOf_141_2 rfl ?_
        obtain ⟨c6, h⟩ := igd h
        refine m_icmp_eq (tgt := 168) C e_x_Mo_lotsOf_143 (by decide) c6 (by decide) (fun c7 => ?_) (fun c7 => ?_)
        · have h := ifp c7 h
          exact m_vret C Rm E e_x_Mo_lotsOf_168 (fin0 h)
        · have h := ifn c7 h
          refine m_blk 148 [(0, vr 0 0), (1, vi b1), (2, vi b2), (3, vi b3), (4, vi b4), (5, vi b5)] [vi 4, vi b3] C f_x_Mo_lotsOf_146_2 rfl ?_
          refine m_icmp_eq (tgt := 168) C e_x_Mo_lotsOf_148 (by decide) c6 (by decide) (fun c8 => ?_) (fun c8 => ?_)
          · have h := ifp c8 h
            exact m_vret C Rm E e_x_Mo_lotsOf_168 (fin0 h)
          · have h := ifn c8 h
            refine m_blk 154 [(0, vr 0 0), (1, vi b1), (2, vi b2), (3, vi b3), (4, vi b4), (5, vi b5)] [vi 8, vi b3] C f_x_Mo_lotsOf_151_2 rfl ?_
            refine m_icmp_eq (tgt := 168) C e_x_Mo_lotsOf_154 (by decide) c6 (by decide) (fun c9 => ?_) (fun c9 => ?_)
            · have h := ifp c9 h
              exact m_vret C Rm E e_x_Mo_lotsOf_168 (fin0 h)
            · have h := ifn c9 h
              refine m_blk 160 [(0, vr 0 0), (1, vi b1), (2, vi b2), (3, vi b3), (4, vi b4), (5, vi b5)] [vi 16, vi b3] C f_x_Mo_lotsOf_157_2 rfl ?_
              refine m_icmp_eq (tgt := 168) C e_x_Mo_lotsOf_160 (by decide) c6 (by decide) (fun c10 => ?_) (fun c10 => ?_)
              · have h := ifp c10 h
                exact m_vret C Rm E e_x_Mo_lotsOf_168 (fin0 h)
              · have h := ifn c10 h
                refine m_blk 165 [(0, vr 0 0), (1, vi b1), (2, vi b2), (3, vi b3), (4, vi b4), (5, vi b5)] [vi 1, vr 0 0] C f_x_Mo_lotsOf_163_2 rfl ?_
                refine m_putz C e_x_Mo_lotsOf_165 fp_Mo_155 rfl (by decide) rfl (Or.inr rfl) ?_
                exact m_vret C Rm E e_x_Mo_lotsOf_168 (fin0 h)
      · have h := ifn c2 h
        refine m_blk 14 [(0, vr 0 0), (1, vi b1), (2, vi b2), (3, vi b3), (4, vi b4), (5, vi b5)] [vr 0 0] C f_x_Mo_lotsOf_13_1 rfl ?_
        refine m_geti C e_x_Mo_lotsOf_14 fg_Mo_155 rfl (by decide) rfl (A 0 0 31) rfl ?_
        obtain ⟨c11, h⟩ := igd h
        refine m_if_ne (tgt := 131) C e_x_Mo_lotsOf_17 (by decide) c11 (fun c12 => ?_) (fun c12 => ?_)
        · have h := ifn c12 h
          refine m_blk 132 [(0, vr 0 0), (1, vi b1), (2, vi b2), (3, vi b3), (4, vi b4), (5, vi b5)] [vr 0 0] C f_x_Mo_lotsOf_131_1 rfl ?_
          refine m_getr C e_x_Mo_lotsOf_132 fg_Mo_27 rfl (by decide) rfl ?_
          refine m_blk 136 [(0, vr 0 0), (1, vi b1), (2, vi b2), (3, vi b3), (4, vi b4), (5, vi b5)] [vi b1, vr 16 0] C f_x_Mo_lotsOf_135_1 rfl ?_
          obtain ⟨c13, h⟩ := igd h
          have k14 : b1.toNat < 6 := by omega
          refine m_aald C b1.toNat e_x_Mo_lotsOf_136 rfl rfl rfl (by decide) (by decide) c13.1 c13.2 (mz _ _) ?_
          refine m_blk 140 [(0, vr 0 0), (1, vi b1), (2, vi b2), (3, vi b3), (4, vi b4), (5, vi b5)] [vi b4, vi b2, vr 36 b1.toNat] C f_x_Mo_lotsOf_137_2 rfl ?_
          obtain ⟨c15, h⟩ := igd h
          refine m_iast C e_x_Mo_lotsOf_140 rfl k14 (by decide) c15.1 c15.2 ?_
          refine m_blk 143 [(0, vr 0 0), (1, vi b1), (2, vi b2), (3, vi b3), (4, vi b4), (5, vi b5)] [vi 2, vi b3] C f_x_Mo_lotsOf_141_2 rfl ?_
          obtain ⟨c16, h⟩ := igd h
          refine m_icmp_eq (tgt := 168) C e_x_Mo_lotsOf_143 (by decide) c16 (by decide) (fun c17 => ?_) (fun c17 => ?_)
          · have h := ifp c17 h
            exact m_vret C Rm E e_x_Mo_lotsOf_168 (fin0 h)
          · have h := ifn c17 h
            refine m_blk 148 [(0, vr 0 0), (1, vi b1), (2, vi b2), (3, vi b3), (4, vi b4), (5, vi b5)] [vi 4, vi b3] C f_x_Mo_lotsOf_146_2 rfl ?_
            refine m_icmp_eq (tgt := 168) C e_x_Mo_lotsOf_148 (by decide) c16 (by decide) (fun c18 => ?_) (fun c18 => ?_)
            · have h := ifp c18 h
              exact m_vret C Rm E e_x_Mo_lotsOf_168 (fin0 h)
            · have h := ifn c18 h
              refine m_blk 154 [(0, vr 0 0), (1, vi b1), (2, vi b2), (3, vi b3), (4, vi b4), (5, vi b5)] [vi 8, vi b3] C f_x_Mo_lotsOf_151_2 rfl ?_
              refine m_icmp_eq (tgt := 168) C e_x_Mo_lotsOf_154 (by decide) c16 (by decide) (fun c19 => ?_) (fun c19 => ?_)
              · have h := ifp c19 h
                exact m_vret C Rm E e_x_Mo_lotsOf_168 (fin0 h)
              · have h := ifn c19 h
                refine m_blk 160 [(0, vr 0 0), (1, vi b1), (2, vi b2), (3, vi b3), (4, vi b4), (5, vi b5)] [vi 16, vi b3] C f_x_Mo_lotsOf_157_2 rfl ?_
                refine m_icmp_eq (tgt := 168) C e_x_Mo_lotsOf_160 (by decide) c16 (by decide) (fun c20 => ?_) (fun c20 => ?_)
                · have h := ifp c20 h
                  exact m_vret C Rm E e_x_Mo_lotsOf_168 (fin0 h)
                · have h := ifn c20 h
                  refine m_blk 165 [(0, vr 0 0), (1, vi b1), (2, vi b2), (3, vi b3), (4, vi b4), (5, vi b5)] [vi 1, vr 0 0] C f_x_Mo_lotsOf_163_2 rfl ?_
                  refine m_putz C e_x_Mo_lotsOf_165 fp_Mo_155 rfl (by decide) rfl (Or.inr rfl) ?_
                  exact m_vret C Rm E e_x_Mo_lotsOf_168 (fin0 h)
        · have h := ifp c12 h
          refine m_blk 24 [(0, vr 0 0), (1, vi b1), (2, vi b2), (3, vi b3), (4, vi b4), (5, vi b5)] [vi 8, vi b4] C f_x_Mo_lotsOf_20_2 rfl ?_
          obtain ⟨c21, h⟩ := igd h
          refine m_icmp_ne (tgt := 33) C e_x_Mo_lotsOf_24 (by decide) c21 (by decide) (fun c22 => ?_) (fun c22 => ?_)
          · have h := ifn c22 h
            refine m_blk 35 [(0, vr 0 0), (1, vi b1), (2, vi b2), (3, vi b3), (4, vi b4), (5, vi b5)] [vi b4] C f_x_Mo_lotsOf_33_1 rfl ?_
            refine m_if_le (tgt := 42) C e_x_Mo_lotsOf_35 (by decide) c21 (fun c23 => ?_) (fun c23 => ?_)
            · have h := ifp c23 h
              refine m_blk 47 [(0, vr 0 0), (1, vi b1), (2, vi b2), (3, vi b3), (4, vi b4), (5, vi b5)] [vi 9, vi 0, vi 3, vr 0 0] C f_x_Mo_lotsOf_42_4 rfl ?_
              obtain ⟨q24, e25, h⟩ := obd h
              refine m_callV C Rm Y [vi 3, vi 0, vi 9] [] (x_Mo_takes l D B H0 ad _ 3 0 9 hS _ _ e25) cl_Mo_198 rfl (by decide) rfl rfl e_x_Mo_lotsOf_47 rfl rfl rfl ⟨by decide, by decide⟩ ?_
              rintro _ _ ⟨rfl, rfl⟩
              show JM g D ad w0 q24.2 50 [(0, vr 0 0), (1, vi b1), (2, vi b2), (3, vi b3), (4, vi b4), (5, vi b5)] [vi q24.1]
              refine m_blk 55 [(6, vi q24.1), (0, vr 0 0), (1, vi b1), (2, vi b2), (3, vi b3), (4, vi b4), (5, vi b5)] [vi 58, vr 0 0] C f_x_Mo_lotsOf_50_3 rfl ?_
              obtain ⟨q26, e27, h⟩ := obd h
              refine m_callV C Rm Y [vi 58] [] (x_Mo_need l D B H0 ad _ 58 hS _ _ e27) cl_Mo_188 rfl (by decide) rfl rfl e_x_Mo_lotsOf_55 rfl rfl rfl ⟨by decide, by decide⟩ ?_
              rintro _ _ ⟨rfl, rfl⟩
              show JM g D ad w0 q26.2 58 [(6, vi q24.1), (0, vr 0 0), (1, vi b1), (2, vi b2), (3, vi b3), (4, vi b4), (5, vi b5)] []
              refine m_blk 63 [(6, vi q24.1), (0, vr 0 0), (1, vi b1), (2, vi b2), (3, vi b3), (4, vi b4), (5, vi b5)] [vi 16, vi 1, vi 3, vr 0 0] C f_x_Mo_lotsOf_58_4 rfl ?_
              obtain ⟨q28, e29, h⟩ := obd h
              refine m_callV C Rm Y [vi 3, vi 1, vi 16] [] (x_Mo_takes l D B H0 ad _ 3 1 16 hS _ _ e29) cl_Mo_198 rfl (by decide) rfl rfl e_x_Mo_lotsOf_63 rfl rfl rfl ⟨by decide, by decide⟩ ?_
              rintro _ _ ⟨rfl, rfl⟩
              show JM g D ad w0 q28.2 66 [(6, vi q24.1), (0, vr 0 0), (1, vi b1), (2, vi b2), (3, vi b3), (4, vi b4), (5, vi b5)] [vi q28.1]
              refine m_blk 69 [(7, vi q28.1), (6, vi q24.1), (0, vr 0 0), (1, vi b1), (2, vi b2), (3, vi b3), (4, vi b4), (5, vi b5)] [vr 0 0] C f_x_Mo_lotsOf_66_2 rfl ?_
              refine m_geti C e_x_Mo_lotsOf_69 fg_Mo_155 rfl (by decide) rfl (q28.2 0 0 31) rfl ?_
              obtain ⟨c30, h⟩ := igd h
              refine m_if_eq (tgt := 76) C e_x_Mo_lotsOf_72 (by decide) c30 (fun c31 => ?_) (fun c31 => ?_)
              · have h := ifp c31 h
                refine m_blk 77 [(7, vi q28.1), (6, vi q24.1), (0, vr 0 0), (1, vi b1), (2, vi b2), (3, vi b3), (4, vi b4), (5, vi b5)] [vr 0 0] C f_x_Mo_lotsOf_76_1 rfl ?_
                refine m_getr C e_x_Mo_lotsOf_77 fg_Mo_42 rfl (by decide) rfl ?_
                refine m_blk 81 [(7, vi q28.1), (6, vi q24.1), (0, vr 0 0), (1, vi b1), (2, vi b2), (3, vi b3), (4, vi b4), (5, vi b5)] [vi b1, vr 21 0] C f_x_Mo_lotsOf_80_1 rfl ?_
                obtain ⟨c32, h⟩ := igd h
                have k33 : b1.toNat < 6 := by omega
                refine m_aald C b1.toNat e_x_Mo_lotsOf_81 rfl rfl rfl (by decide) (by decide) c32.1 c32.2 (mz _ _) ?_
                refine m_blk 83 [(7, vi q28.1), (6, vi q24.1), (0, vr 0 0), (1, vi b1), (2, vi b2), (3, vi b3), (4, vi b4), (5, vi b5)] [vr 0 0, vr 41 b1.toNat] C f_x_Mo_lotsOf_82_1 rfl ?_
                refine m_geti C e_x_Mo_lotsOf_83 fg_Mo_195 rfl (by decide) rfl (q28.2 0 0 29) rfl ?_
                refine m_blk 88 [(7, vi q28.1), (6, vi q24.1), (0, vr 0 0), (1, vi b1), (2, vi b2), (3, vi b3), (4, vi b4), (5, vi b5)] [vi q24.1, vi (q28.2 0 0 29), vr 41 b1.toNat] C f_x_Mo_lotsOf_86_1 rfl ?_
                obtain ⟨c34, h⟩ := igd h
                refine m_iast C e_x_Mo_lotsOf_88 rfl k33 (by decide) c34.1 c34.2 ?_
                refine m_blk 90 [(7, vi q28.1), (6, vi q24.1), (0, vr 0 0), (1, vi b1), (2, vi b2), (3, vi b3), (4, vi b4), (5, vi b5)] [vr 0 0] C f_x_Mo_lotsOf_89_1 rfl ?_
                refine m_getr C e_x_Mo_lotsOf_90 fg_Mo_45 rfl (by decide) rfl ?_
                refine m_blk 94 [(7, vi q28.1), (6, vi q24.1), (0, vr 0 0), (1, vi b1), (2, vi b2), (3, vi b3), (4, vi b4), (5, vi b5)] [vi b1, vr 22 0] C f_x_Mo_lotsOf_93_1 rfl ?_
                have k35 : b1.toNat < 6 := by omega
                refine m_aald C b1.toNat e_x_Mo_lotsOf_94 rfl rfl rfl (by decide) (by decide) c32.1 c32.2 (mz _ _) ?_
                refine m_blk 96 [(7, vi q28.1), (6, vi q24.1), (0, vr 0 0), (1, vi b1), (2, vi b2), (3, vi b3), (4, vi b4), (5, vi b5)] [vr 0 0, vr 42 b1.toNat] C f_x_Mo_lotsOf_95_1 rfl ?_
                refine m_geti C e_x_Mo_lotsOf_96 fg_Mo_195 rfl (by decide) rfl (q28.2 0 0 29) rfl ?_
                refine m_blk 101 [(7, vi q28.1), (6, vi q24.1), (0, vr 0 0), (1, vi b1), (2, vi b2), (3, vi b3), (4, vi b4), (5, vi b5)] [vi q28.1, vi (q28.2 0 0 29), vr 42 b1.toNat] C f_x_Mo_lotsOf_99_1 rfl ?_
                refine m_iast C e_x_Mo_lotsOf_101 rfl k35 (by decide) c34.1 c34.2 ?_
                refine m_blk 104 [(7, vi q28.1), (6, vi q24.1), (0, vr 0 0), (1, vi b1), (2, vi b2), (3, vi b3), (4, vi b4), (5, vi b5)] [vr 0 0, vr 0 0] C f_x_Mo_lotsOf_102_2 rfl ?_
                refine m_geti C e_x_Mo_lotsOf_104 fg_Mo_195 rfl (by decide) rfl (q28.2 0 0 29) rfl ?_
                refine m_blk 109 [(7, vi q28.1), (6, vi q24.1), (0, vr 0 0), (1, vi b1), (2, vi b2), (3, vi b3), (4, vi b4), (5, vi b5)] [vi ((q28.2 0 0 29) + 1), vr 0 0] C f_x_Mo_lotsOf_107_2 rfl ?_
                refine m_puti C e_x_Mo_lotsOf_109 fp_Mo_195 rfl (by decide) rfl ?_
                refine m_blk 123 [(4, vi (b4 + 1)), (3, vi (b3 + q28.1)), (7, vi q28.1), (6, vi q24.1), (0, vr 0 0), (1, vi b1), (2, vi b2), (5, vi b5)] [vi 44, vr 0 0] C f_x_Mo_lotsOf_112_7 rfl ?_
                obtain ⟨q36, e37, h⟩ := obd h
                refine m_callV C Rm Y [vi 44] [] (x_Mo_isSign l D B H0 ad _ 44 hS _ _ e37) cl_Mo_173 rfl (by decide) rfl rfl e_x_Mo_lotsOf_123 rfl rfl rfl ⟨by decide, by decide⟩ ?_
                rintro _ _ ⟨rfl, rfl⟩
                show JM g D ad w0 q36.2 126 [(4, vi (b4 + 1)), (3, vi (b3 + q28.1)), (7, vi q28.1), (6, vi q24.1), (0, vr 0 0), (1, vi b1), (2, vi b2), (5, vi b5)] [vi q36.1]
                refine m_blk 8 [(5, vi q36.1), (4, vi (b4 + 1)), (3, vi (b3 + q28.1)), (7, vi q28.1), (6, vi q24.1), (0, vr 0 0), (1, vi b1), (2, vi b2)] [] C f_x_Mo_lotsOf_126_2 rfl ?_
                refine m_loc [(0, vr 0 0), (1, vi b1), (2, vi b2), (3, vi (b3 + q28.1)), (4, vi (b4 + 1)), (5, vi q36.1)] ⟨rfl, rfl, rfl, rfl, rfl, rfl, trivial⟩ ?_
                exact ih q36.2 b1 b2 (b3 + q28.1) (b4 + 1) q36.1  h
              · have h := ifn c31 h
                exact m_vret C Rm E e_x_Mo_lotsOf_75 (fin0 h)
            · have h := ifn c23 h
              refine m_blk 39 [(0, vr 0 0), (1, vi b1), (2, vi b2), (3, vi b3), (4, vi b4), (5, vi b5)] [vr 0 0] C f_x_Mo_lotsOf_38_1 rfl ?_
              obtain ⟨q38, e39, h⟩ := obd h
              refine m_callV C Rm Y [] [] (x_Mo_next l D B H0 ad _  hS _ _ e39) cl_Mo_176 rfl (by decide) rfl rfl e_x_Mo_lotsOf_39 rfl rfl rfl ⟨by decide, by decide⟩ ?_
              rintro _ _ ⟨rfl, rfl⟩
              show JM g D ad w0 q38.2 42 [(0, vr 0 0), (1, vi b1), (2, vi b2), (3, vi b3), (4, vi b4), (5, vi b5)] []
              refine m_blk 47 [(0, vr 0 0), (1, vi b1), (2, vi b2), (3, vi b3), (4, vi b4), (5, vi b5)] [vi 9, vi 0, vi 3, vr 0 0] C f_x_Mo_lotsOf_42_4 rfl ?_
              obtain ⟨q40, e41, h⟩ := obd h
              refine m_callV C Rm Y [vi 3, vi 0, vi 9] [] (x_Mo_takes l D B H0 ad _ 3 0 9 hS _ _ e41) cl_Mo_198 rfl (by decide) rfl rfl e_x_Mo_lotsOf_47 rfl rfl rfl ⟨by decide, by decide⟩ ?_
              rintro _ _ ⟨rfl, rfl⟩
              show JM g D ad w0 q40.2 50 [(0, vr 0 0), (1, vi b1), (2, vi b2), (3, vi b3), (4, vi b4), (5, vi b5)] [vi q40.1]
              refine m_blk 55 [(6, vi q40.1), (0, vr 0 0), (1, vi b1), (2, vi b2), (3, vi b3), (4, vi b4), (5, vi b5)] [vi 58, vr 0 0] C f_x_Mo_lotsOf_50_3 rfl ?_
              obtain ⟨q42, e43, h⟩ := obd h
              refine m_callV C Rm Y [vi 58] [] (x_Mo_need l D B H0 ad _ 58 hS _ _ e43) cl_Mo_188 rfl (by decide) rfl rfl e_x_Mo_lotsOf_55 rfl rfl rfl ⟨by decide, by decide⟩ ?_
              rintro _ _ ⟨rfl, rfl⟩
              show JM g D ad w0 q42.2 58 [(6, vi q40.1), (0, vr 0 0), (1, vi b1), (2, vi b2), (3, vi b3), (4, vi b4), (5, vi b5)] []
              refine m_blk 63 [(6, vi q40.1), (0, vr 0 0), (1, vi b1), (2, vi b2), (3, vi b3), (4, vi b4), (5, vi b5)] [vi 16, vi 1, vi 3, vr 0 0] C f_x_Mo_lotsOf_58_4 rfl ?_
              obtain ⟨q44, e45, h⟩ := obd h
              refine m_callV C Rm Y [vi 3, vi 1, vi 16] [] (x_Mo_takes l D B H0 ad _ 3 1 16 hS _ _ e45) cl_Mo_198 rfl (by decide) rfl rfl e_x_Mo_lotsOf_63 rfl rfl rfl ⟨by decide, by decide⟩ ?_
              rintro _ _ ⟨rfl, rfl⟩
              show JM g D ad w0 q44.2 66 [(6, vi q40.1), (0, vr 0 0), (1, vi b1), (2, vi b2), (3, vi b3), (4, vi b4), (5, vi b5)] [vi q44.1]
              refine m_blk 69 [(7, vi q44.1), (6, vi q40.1), (0, vr 0 0), (1, vi b1), (2, vi b2), (3, vi b3), (4, vi b4), (5, vi b5)] [vr 0 0] C f_x_Mo_lotsOf_66_2 rfl ?_
              refine m_geti C e_x_Mo_lotsOf_69 fg_Mo_155 rfl (by decide) rfl (q44.2 0 0 31) rfl ?_
              obtain ⟨c46, h⟩ := igd h
              refine m_if_eq (tgt := 76) C e_x_Mo_lotsOf_72 (by decide) c46 (fun c47 => ?_) (fun c47 => ?_)
              · have h := ifp c47 h
                refine m_blk 77 [(7, vi q44.1), (6, vi q40.1), (0, vr 0 0), (1, vi b1), (2, vi b2), (3, vi b3), (4, vi b4), (5, vi b5)] [vr 0 0] C f_x_Mo_lotsOf_76_1 rfl ?_
                refine m_getr C e_x_Mo_lotsOf_77 fg_Mo_42 rfl (by decide) rfl ?_
                refine m_blk 81 [(7, vi q44.1), (6, vi q40.1), (0, vr 0 0), (1, vi b1), (2, vi b2), (3, vi b3), (4, vi b4), (5, vi b5)] [vi b1, vr 21 0] C f_x_Mo_lotsOf_80_1 rfl ?_
                obtain ⟨c48, h⟩ := igd h
                have k49 : b1.toNat < 6 := by omega
                refine m_aald C b1.toNat e_x_Mo_lotsOf_81 rfl rfl rfl (by decide) (by decide) c48.1 c48.2 (mz _ _) ?_
                refine m_blk 83 [(7, vi q44.1), (6, vi q40.1), (0, vr 0 0), (1, vi b1), (2, vi b2), (3, vi b3), (4, vi b4), (5, vi b5)] [vr 0 0, vr 41 b1.toNat] C f_x_Mo_lotsOf_82_1 rfl ?_
                refine m_geti C e_x_Mo_lotsOf_83 fg_Mo_195 rfl (by decide) rfl (q44.2 0 0 29) rfl ?_
                refine m_blk 88 [(7, vi q44.1), (6, vi q40.1), (0, vr 0 0), (1, vi b1), (2, vi b2), (3, vi b3), (4, vi b4), (5, vi b5)] [vi q40.1, vi (q44.2 0 0 29), vr 41 b1.toNat] C f_x_Mo_lotsOf_86_1 rfl ?_
                obtain ⟨c50, h⟩ := igd h
                refine m_iast C e_x_Mo_lotsOf_88 rfl k49 (by decide) c50.1 c50.2 ?_
                refine m_blk 90 [(7, vi q44.1), (6, vi q40.1), (0, vr 0 0), (1, vi b1), (2, vi b2), (3, vi b3), (4, vi b4), (5, vi b5)] [vr 0 0] C f_x_Mo_lotsOf_89_1 rfl ?_
                refine m_getr C e_x_Mo_lotsOf_90 fg_Mo_45 rfl (by decide) rfl ?_
                refine m_blk 94 [(7, vi q44.1), (6, vi q40.1), (0, vr 0 0), (1, vi b1), (2, vi b2), (3, vi b3), (4, vi b4), (5, vi b5)] [vi b1, vr 22 0] C f_x_Mo_lotsOf_93_1 rfl ?_
                have k51 : b1.toNat < 6 := by omega
                refine m_aald C b1.toNat e_x_Mo_lotsOf_94 rfl rfl rfl (by decide) (by decide) c48.1 c48.2 (mz _ _) ?_
                refine m_blk 96 [(7, vi q44.1), (6, vi q40.1), (0, vr 0 0), (1, vi b1), (2, vi b2), (3, vi b3), (4, vi b4), (5, vi b5)] [vr 0 0, vr 42 b1.toNat] C f_x_Mo_lotsOf_95_1 rfl ?_
                refine m_geti C e_x_Mo_lotsOf_96 fg_Mo_195 rfl (by decide) rfl (q44.2 0 0 29) rfl ?_
                refine m_blk 101 [(7, vi q44.1), (6, vi q40.1), (0, vr 0 0), (1, vi b1), (2, vi b2), (3, vi b3), (4, vi b4), (5, vi b5)] [vi q44.1, vi (q44.2 0 0 29), vr 42 b1.toNat] C f_x_Mo_lotsOf_99_1 rfl ?_
                refine m_iast C e_x_Mo_lotsOf_101 rfl k51 (by decide) c50.1 c50.2 ?_
                refine m_blk 104 [(7, vi q44.1), (6, vi q40.1), (0, vr 0 0), (1, vi b1), (2, vi b2), (3, vi b3), (4, vi b4), (5, vi b5)] [vr 0 0, vr 0 0] C f_x_Mo_lotsOf_102_2 rfl ?_
                refine m_geti C e_x_Mo_lotsOf_104 fg_Mo_195 rfl (by decide) rfl (q44.2 0 0 29) rfl ?_
                refine m_blk 109 [(7, vi q44.1), (6, vi q40.1), (0, vr 0 0), (1, vi b1), (2, vi b2), (3, vi b3), (4, vi b4), (5, vi b5)] [vi ((q44.2 0 0 29) + 1), vr 0 0] C f_x_Mo_lotsOf_107_2 rfl ?_
                refine m_puti C e_x_Mo_lotsOf_109 fp_Mo_195 rfl (by decide) rfl ?_
                refine m_blk 123 [(4, vi (b4 + 1)), (3, vi (b3 + q44.1)), (7, vi q44.1), (6, vi q40.1), (0, vr 0 0), (1, vi b1), (2, vi b2), (5, vi b5)] [vi 44, vr 0 0] C f_x_Mo_lotsOf_112_7 rfl ?_
                obtain ⟨q52, e53, h⟩ := obd h
                refine m_callV C Rm Y [vi 44] [] (x_Mo_isSign l D B H0 ad _ 44 hS _ _ e53) cl_Mo_173 rfl (by decide) rfl rfl e_x_Mo_lotsOf_123 rfl rfl rfl ⟨by decide, by decide⟩ ?_
                rintro _ _ ⟨rfl, rfl⟩
                show JM g D ad w0 q52.2 126 [(4, vi (b4 + 1)), (3, vi (b3 + q44.1)), (7, vi q44.1), (6, vi q40.1), (0, vr 0 0), (1, vi b1), (2, vi b2), (5, vi b5)] [vi q52.1]
                refine m_blk 8 [(5, vi q52.1), (4, vi (b4 + 1)), (3, vi (b3 + q44.1)), (7, vi q44.1), (6, vi q40.1), (0, vr 0 0), (1, vi b1), (2, vi b2)] [] C f_x_Mo_lotsOf_126_2 rfl ?_
                refine m_loc [(0, vr 0 0), (1, vi b1), (2, vi b2), (3, vi (b3 + q44.1)), (4, vi (b4 + 1)), (5, vi q52.1)] ⟨rfl, rfl, rfl, rfl, rfl, rfl, trivial⟩ ?_
                exact ih q52.2 b1 b2 (b3 + q44.1) (b4 + 1) q52.1  h
              · have h := ifn c47 h
                exact m_vret C Rm E e_x_Mo_lotsOf_75 (fin0 h)
          · have h := ifp c22 h
            refine m_blk 29 [(0, vr 0 0), (1, vi b1), (2, vi b2), (3, vi b3), (4, vi b4), (5, vi b5)] [vi 1, vr 0 0] C f_x_Mo_lotsOf_27_2 rfl ?_
            refine m_putz C e_x_Mo_lotsOf_29 fp_Mo_155 rfl (by decide) rfl (Or.inr rfl) ?_
            exact m_vret C Rm E e_x_Mo_lotsOf_32 (fin0 h)
  show JM g D ad w0 A 0 [(0, vr 0 0), (1, vi a0), (2, vi a1)] []
  unfold f_Mo_lotsOf at h
  refine m_blk 8 [(5, vi 1), (4, vi 0), (3, vi 0), (0, vr 0 0), (1, vi a0), (2, vi a1)] [] C f_x_Mo_lotsOf_0_6 rfl ?_
  refine m_loc [(0, vr 0 0), (1, vi a0), (2, vi a1), (3, vi 0), (4, vi 0), (5, vi 1)] ⟨rfl, rfl, rfl, rfl, rfl, rfl, trivial⟩ ?_
  exact hd_8 _ A a0 a1 0 0 1  h

def f_Mo_block_4 (stp : mA → Option (Int × mA)) : Nat → mA → Option (Int × mA)
  | 0, _ => none
  | n + 1, A => (Option.bind (f_Mo_isSign A 59) (fun q1 => (if g32 q1.1 then (if q1.1 = 0 then (some (0, q1.2)) else (Option.bind (f_Mo_next q1.2 ) (fun q5 => (Option.bind (stp q5.2 ) (fun q7 => (f_Mo_block_4 stp n q7.2 )))))) else none)))
def f_Mo_block (stp : mA → Option (Int × mA)) (A : mA)  : Option (Int × mA) := (Option.bind (stp A ) (fun q9 => (f_Mo_block_4 stp 200 q9.2 )))
theorem f_x_Mo_block_0_1 : mblkB b_Mo_block [(0, .aload_n 0, vi 0)] = true := by decide +kernel
theorem e_x_Mo_block_1 : decode b_Mo_block 1 = .ok (.invokevirtual 179, 3) := by decide +kernel
theorem f_x_Mo_block_4_2 : mblkB b_Mo_block [(4, .aload_n 0, vi 0), (5, .bipush 59, vi 59)] = true := by decide +kernel
theorem e_x_Mo_block_7 : decode b_Mo_block 7 = .ok (.invokevirtual 173, 3) := by decide +kernel
theorem e_x_Mo_block_10 : decode b_Mo_block 10 = .ok (.ifCond .eq 14, 3) := by decide +kernel
theorem e_x_Mo_block_24 : decode b_Mo_block 24 = .ok (.return_, 1) := by decide +kernel
theorem f_x_Mo_block_13_1 : mblkB b_Mo_block [(13, .aload_n 0, vi 0)] = true := by decide +kernel
theorem e_x_Mo_block_14 : decode b_Mo_block 14 = .ok (.invokevirtual 176, 3) := by decide +kernel
theorem f_x_Mo_block_17_1 : mblkB b_Mo_block [(17, .aload_n 0, vi 0)] = true := by decide +kernel
theorem e_x_Mo_block_18 : decode b_Mo_block 18 = .ok (.invokevirtual 179, 3) := by decide +kernel
theorem f_x_Mo_block_21_1 : mblkB b_Mo_block [(21, .goto (-17), vi 4)] = true := by decide +kernel
set_option maxHeartbeats 4000000 in
set_option maxRecDepth 20000 in
theorem x_Mo_block {stp : mA → Option (Int × mA)} {fr lo : Nat} (hstp : ∀ (l : Launch) (D : va_G) (B : Nat) (H0 : Heap) (ad : mAd) (A : mA)  (hS : mStr D ad) (r9 : Int) (A9 : mA), stp A  = some (r9, A9) → mMet l D B H0 ad y_Mo_step_0 b_Mo_step_0 4 none fr lo [vr 0 0] A (fun v A' => v = none ∧ A' = A9)) : ∀ (l : Launch) (D : va_G) (B : Nat) (H0 : Heap) (ad : mAd) (A : mA)  (hS : mStr D ad) (r9 : Int) (A9 : mA), f_Mo_block stp A  = some (r9, A9) → mMet l D B H0 ad y_Mo_block b_Mo_block 1 none (fr + 240) (lo + 9000) [vr 0 0] A (fun v A' => v = none ∧ A' = A9) := by
  intro l D B H0 ad A   hS r9 A9 h
  refine m_met (by decide) rfl (fun g w0 C Rm Y E => ?_)
  have hd_4 : ∀ (n : Nat) (A : mA)  , f_Mo_block_4 stp n A  = some (r9, A9) → JM g D ad w0 A 4 [(0, vr 0 0)] [] := by
    intro n
    induction n with
    | zero => intro A   h; cases h
    | succ n ih =>
      intro A   h
      unfold f_Mo_block_4 at h
      refine m_blk 7 [(0, vr 0 0)] [vi 59, vr 0 0] C f_x_Mo_block_4_2 rfl ?_
      obtain ⟨q1, e2, h⟩ := obd h
      refine m_callV C Rm Y [vi 59] [] (x_Mo_isSign l D B H0 ad _ 59 hS _ _ e2) cl_Mo_173 rfl (by decide) rfl rfl e_x_Mo_block_7 rfl rfl rfl ⟨by show _ ≤ ((fr + 240) : Nat); omega, by show _ ≤ ((lo + 9000) : Nat); omega⟩ ?_
      rintro _ _ ⟨rfl, rfl⟩
      show JM g D ad w0 q1.2 10 [(0, vr 0 0)] [vi q1.1]
      obtain ⟨c3, h⟩ := igd h
      refine m_if_eq (tgt := 24) C e_x_Mo_block_10 (by decide) c3 (fun c4 => ?_) (fun c4 => ?_)
      · have h := ifp c4 h
        exact m_vret C Rm E e_x_Mo_block_24 (fin0 h)
      · have h := ifn c4 h
        refine m_blk 14 [(0, vr 0 0)] [vr 0 0] C f_x_Mo_block_13_1 rfl ?_
        obtain ⟨q5, e6, h⟩ := obd h
        refine m_callV C Rm Y [] [] (x_Mo_next l D B H0 ad _  hS _ _ e6) cl_Mo_176 rfl (by decide) rfl rfl e_x_Mo_block_14 rfl rfl rfl ⟨by show _ ≤ ((fr + 240) : Nat); omega, by show _ ≤ ((lo + 9000) : Nat); omega⟩ ?_
        rintro _ _ ⟨rfl, rfl⟩
        show JM g D ad w0 q5.2 17 [(0, vr 0 0)] []
        refine m_blk 18 [(0, vr 0 0)] [vr 0 0] C f_x_Mo_block_17_1 rfl ?_
        obtain ⟨q7, e8, h⟩ := obd h
        refine m_callV C Rm Y [] [] (hstp l D B H0 ad _  hS _ _ e8) cl_Mo_179 rfl (by decide) rfl rfl e_x_Mo_block_18 rfl rfl rfl ⟨by show _ ≤ ((fr + 240) : Nat); omega, by show _ ≤ ((lo + 9000) : Nat); omega⟩ ?_
        rintro _ _ ⟨rfl, rfl⟩
        show JM g D ad w0 q7.2 21 [(0, vr 0 0)] []
        refine m_blk 4 [(0, vr 0 0)] [] C f_x_Mo_block_21_1 rfl ?_
        refine m_loc [(0, vr 0 0)] ⟨rfl, trivial⟩ ?_
        exact ih q7.2   h
  show JM g D ad w0 A 0 [(0, vr 0 0)] []
  unfold f_Mo_block at h
  refine m_blk 1 [(0, vr 0 0)] [vr 0 0] C f_x_Mo_block_0_1 rfl ?_
  obtain ⟨q9, e10, h⟩ := obd h
  refine m_callV C Rm Y [] [] (hstp l D B H0 ad _  hS _ _ e10) cl_Mo_179 rfl (by decide) rfl rfl e_x_Mo_block_1 rfl rfl rfl ⟨by show _ ≤ ((fr + 240) : Nat); omega, by show _ ≤ ((lo + 9000) : Nat); omega⟩ ?_
  rintro _ _ ⟨rfl, rfl⟩
  show JM g D ad w0 q9.2 4 [(0, vr 0 0)] []
  refine m_loc [(0, vr 0 0)] ⟨rfl, trivial⟩ ?_
  exact hd_4 _ q9.2   h

def f_Mo_inBraces (stp : mA → Option (Int × mA)) (A : mA)  : Option (Int × mA) := (Option.bind (f_Mo_isSign A 123) (fun q1 => (if g32 q1.1 then (if q1.1 = 0 then (some (0, (mu q1.2 0 0 31 1))) else (if g32 (q1.2 0 0 27) then (if (q1.2 0 0 27) = 4 then (some (0, (mu q1.2 0 0 31 1))) else (Option.bind (f_Mo_next (mu q1.2 0 0 27 ((q1.2 0 0 27) + 1)) ) (fun q7 => (Option.bind (f_Mo_block stp q7.2 ) (fun q9 => (Option.bind (f_Mo_need (mu q9.2 0 0 27 ((q9.2 0 0 27) - 1)) 125) (fun q11 => (some (0, q11.2))))))))) else none)) else none)))
theorem f_x_Mo_inBraces_0_2 : mblkB b_Mo_inBraces [(0, .aload_n 0, vi 0), (1, .bipush 123, vi 123)] = true := by decide +kernel
theorem e_x_Mo_inBraces_3 : decode b_Mo_inBraces 3 = .ok (.invokevirtual 173, 3) := by decide +kernel
theorem e_x_Mo_inBraces_6 : decode b_Mo_inBraces 6 = .ok (.ifCond .eq 11, 3) := by decide +kernel
theorem f_x_Mo_inBraces_17_2 : mblkB b_Mo_inBraces [(17, .aload_n 0, vi 0), (18, .iconst 1, vi 1)] = true := by decide +kernel
theorem e_x_Mo_inBraces_19 : decode b_Mo_inBraces 19 = .ok (.putfield 155, 3) := by decide +kernel
theorem e_x_Mo_inBraces_22 : decode b_Mo_inBraces 22 = .ok (.return_, 1) := by decide +kernel
theorem f_x_Mo_inBraces_9_1 : mblkB b_Mo_inBraces [(9, .aload_n 0, vi 0)] = true := by decide +kernel
theorem e_x_Mo_inBraces_10 : decode b_Mo_inBraces 10 = .ok (.getfield 182, 3) := by decide +kernel
theorem f_x_Mo_inBraces_13_1 : mblkB b_Mo_inBraces [(13, .iconst 4, vi 4)] = true := by decide +kernel
theorem e_x_Mo_inBraces_14 : decode b_Mo_inBraces 14 = .ok (.if_icmp .ne 9, 3) := by decide +kernel
theorem f_x_Mo_inBraces_23_2 : mblkB b_Mo_inBraces [(23, .aload_n 0, vi 0), (24, .dup, vi 0)] = true := by decide +kernel
theorem e_x_Mo_inBraces_25 : decode b_Mo_inBraces 25 = .ok (.getfield 182, 3) := by decide +kernel
theorem f_x_Mo_inBraces_28_2 : mblkB b_Mo_inBraces [(28, .iconst 1, vi 1), (29, .iadd, vi 0)] = true := by decide +kernel
theorem e_x_Mo_inBraces_30 : decode b_Mo_inBraces 30 = .ok (.putfield 182, 3) := by decide +kernel
theorem f_x_Mo_inBraces_33_1 : mblkB b_Mo_inBraces [(33, .aload_n 0, vi 0)] = true := by decide +kernel
theorem e_x_Mo_inBraces_34 : decode b_Mo_inBraces 34 = .ok (.invokevirtual 176, 3) := by decide +kernel
theorem f_x_Mo_inBraces_37_1 : mblkB b_Mo_inBraces [(37, .aload_n 0, vi 0)] = true := by decide +kernel
theorem e_x_Mo_inBraces_38 : decode b_Mo_inBraces 38 = .ok (.invokevirtual 185, 3) := by decide +kernel
theorem f_x_Mo_inBraces_41_2 : mblkB b_Mo_inBraces [(41, .aload_n 0, vi 0), (42, .dup, vi 0)] = true := by decide +kernel
theorem e_x_Mo_inBraces_43 : decode b_Mo_inBraces 43 = .ok (.getfield 182, 3) := by decide +kernel
theorem f_x_Mo_inBraces_46_2 : mblkB b_Mo_inBraces [(46, .iconst 1, vi 1), (47, .isub, vi 0)] = true := by decide +kernel
theorem e_x_Mo_inBraces_48 : decode b_Mo_inBraces 48 = .ok (.putfield 182, 3) := by decide +kernel
theorem f_x_Mo_inBraces_51_2 : mblkB b_Mo_inBraces [(51, .aload_n 0, vi 0), (52, .bipush 125, vi 125)] = true := by decide +kernel
theorem e_x_Mo_inBraces_54 : decode b_Mo_inBraces 54 = .ok (.invokevirtual 188, 3) := by decide +kernel
theorem e_x_Mo_inBraces_57 : decode b_Mo_inBraces 57 = .ok (.return_, 1) := by decide +kernel
set_option maxHeartbeats 4000000 in
set_option maxRecDepth 20000 in
theorem x_Mo_inBraces {stp : mA → Option (Int × mA)} {fr lo : Nat} (hstp : ∀ (l : Launch) (D : va_G) (B : Nat) (H0 : Heap) (ad : mAd) (A : mA)  (hS : mStr D ad) (r9 : Int) (A9 : mA), stp A  = some (r9, A9) → mMet l D B H0 ad y_Mo_step_0 b_Mo_step_0 4 none fr lo [vr 0 0] A (fun v A' => v = none ∧ A' = A9)) : ∀ (l : Launch) (D : va_G) (B : Nat) (H0 : Heap) (ad : mAd) (A : mA)  (hS : mStr D ad) (r9 : Int) (A9 : mA), f_Mo_inBraces stp A  = some (r9, A9) → mMet l D B H0 ad y_Mo_inBraces b_Mo_inBraces 1 none (fr + 242) (lo + 9300) [vr 0 0] A (fun v A' => v = none ∧ A' = A9) := by
  intro l D B H0 ad A   hS r9 A9 h
  refine m_met (by decide) rfl (fun g w0 C Rm Y E => ?_)
  show JM g D ad w0 A 0 [(0, vr 0 0)] []
  unfold f_Mo_inBraces at h
  refine m_blk 3 [(0, vr 0 0)] [vi 123, vr 0 0] C f_x_Mo_inBraces_0_2 rfl ?_
  obtain ⟨q1, e2, h⟩ := obd h
  refine m_callV C Rm Y [vi 123] [] (x_Mo_isSign l D B H0 ad _ 123 hS _ _ e2) cl_Mo_173 rfl (by decide) rfl rfl e_x_Mo_inBraces_3 rfl rfl rfl ⟨by show _ ≤ ((fr + 242) : Nat); omega, by show _ ≤ ((lo + 9300) : Nat); omega⟩ ?_
  rintro _ _ ⟨rfl, rfl⟩
  show JM g D ad w0 q1.2 6 [(0, vr 0 0)] [vi q1.1]
  obtain ⟨c3, h⟩ := igd h
  refine m_if_eq (tgt := 17) C e_x_Mo_inBraces_6 (by decide) c3 (fun c4 => ?_) (fun c4 => ?_)
  · have h := ifp c4 h
    refine m_blk 19 [(0, vr 0 0)] [vi 1, vr 0 0] C f_x_Mo_inBraces_17_2 rfl ?_
    refine m_putz C e_x_Mo_inBraces_19 fp_Mo_155 rfl (by decide) rfl (Or.inr rfl) ?_
    exact m_vret C Rm E e_x_Mo_inBraces_22 (fin0 h)
  · have h := ifn c4 h
    refine m_blk 10 [(0, vr 0 0)] [vr 0 0] C f_x_Mo_inBraces_9_1 rfl ?_
    refine m_geti C e_x_Mo_inBraces_10 fg_Mo_182 rfl (by decide) rfl (q1.2 0 0 27) rfl ?_
    refine m_blk 14 [(0, vr 0 0)] [vi 4, vi (q1.2 0 0 27)] C f_x_Mo_inBraces_13_1 rfl ?_
    obtain ⟨c5, h⟩ := igd h
    refine m_icmp_ne (tgt := 23) C e_x_Mo_inBraces_14 (by decide) c5 (by decide) (fun c6 => ?_) (fun c6 => ?_)
    · have h := ifn c6 h
      refine m_blk 25 [(0, vr 0 0)] [vr 0 0, vr 0 0] C f_x_Mo_inBraces_23_2 rfl ?_
      refine m_geti C e_x_Mo_inBraces_25 fg_Mo_182 rfl (by decide) rfl (q1.2 0 0 27) rfl ?_
      refine m_blk 30 [(0, vr 0 0)] [vi ((q1.2 0 0 27) + 1), vr 0 0] C f_x_Mo_inBraces_28_2 rfl ?_
      refine m_puti C e_x_Mo_inBraces_30 fp_Mo_182 rfl (by decide) rfl ?_
      refine m_blk 34 [(0, vr 0 0)] [vr 0 0] C f_x_Mo_inBraces_33_1 rfl ?_
      obtain ⟨q7, e8, h⟩ := obd h
      refine m_callV C Rm Y [] [] (x_Mo_next l D B H0 ad _  hS _ _ e8) cl_Mo_176 rfl (by decide) rfl rfl e_x_Mo_inBraces_34 rfl rfl rfl ⟨by show _ ≤ ((fr + 242) : Nat); omega, by show _ ≤ ((lo + 9300) : Nat); omega⟩ ?_
      rintro _ _ ⟨rfl, rfl⟩
      show JM g D ad w0 q7.2 37 [(0, vr 0 0)] []
      refine m_blk 38 [(0, vr 0 0)] [vr 0 0] C f_x_Mo_inBraces_37_1 rfl ?_
      obtain ⟨q9, e10, h⟩ := obd h
      refine m_callV C Rm Y [] [] (x_Mo_block hstp l D B H0 ad _  hS _ _ e10) cl_Mo_185 rfl (by decide) rfl rfl e_x_Mo_inBraces_38 rfl rfl rfl ⟨by show _ ≤ ((fr + 242) : Nat); omega, by show _ ≤ ((lo + 9300) : Nat); omega⟩ ?_
      rintro _ _ ⟨rfl, rfl⟩
      show JM g D ad w0 q9.2 41 [(0, vr 0 0)] []
      refine m_blk 43 [(0, vr 0 0)] [vr 0 0, vr 0 0] C f_x_Mo_inBraces_41_2 rfl ?_
      refine m_geti C e_x_Mo_inBraces_43 fg_Mo_182 rfl (by decide) rfl (q9.2 0 0 27) rfl ?_
      refine m_blk 48 [(0, vr 0 0)] [vi ((q9.2 0 0 27) - 1), vr 0 0] C f_x_Mo_inBraces_46_2 rfl ?_
      refine m_puti C e_x_Mo_inBraces_48 fp_Mo_182 rfl (by decide) rfl ?_
      refine m_blk 54 [(0, vr 0 0)] [vi 125, vr 0 0] C f_x_Mo_inBraces_51_2 rfl ?_
      obtain ⟨q11, e12, h⟩ := obd h
      refine m_callV C Rm Y [vi 125] [] (x_Mo_need l D B H0 ad _ 125 hS _ _ e12) cl_Mo_188 rfl (by decide) rfl rfl e_x_Mo_inBraces_54 rfl rfl rfl ⟨by show _ ≤ ((fr + 242) : Nat); omega, by show _ ≤ ((lo + 9300) : Nat); omega⟩ ?_
      rintro _ _ ⟨rfl, rfl⟩
      show JM g D ad w0 q11.2 57 [(0, vr 0 0)] []
      exact m_vret C Rm E e_x_Mo_inBraces_57 (fin0 h)
    · have h := ifp c6 h
      refine m_blk 19 [(0, vr 0 0)] [vi 1, vr 0 0] C f_x_Mo_inBraces_17_2 rfl ?_
      refine m_putz C e_x_Mo_inBraces_19 fp_Mo_155 rfl (by decide) rfl (Or.inr rfl) ?_
      exact m_vret C Rm E e_x_Mo_inBraces_22 (fin0 h)

def f_Mo_stepT (stp : mA → Option (Int × mA)) (A : mA)  : Option (Int × mA) := (if g32 (A 0 0 31) then (if (A 0 0 31) = 0 then (if g32 (A 0 0 25) then (if (A 0 0 25) = 2 then (if g32 (A 0 0 28) then (if (A 0 0 28) = 16 then (some (0, (mu A 0 0 31 1))) else (if (0 ≤ (A 0 0 0) ∧ (A 0 0 0) < ((6 : Nat) : Int)) then (if (0 ≤ (A 0 0 28) ∧ (A 0 0 28) < ((16 : Nat) : Int)) then (Option.bind (f_Mo_next (mu (mu (mu (mu (mu (mu A 0 0 28 ((A 0 0 28) + 1)) 34 ((A 0 0 0).toNat) ((A 0 0 28).toNat) (A 0 0 26)) 35 ((A 0 0 0).toNat) ((A 0 0 28).toNat) (-1)) 36 ((A 0 0 0).toNat) ((A 0 0 28).toNat) (-1)) 39 ((A 0 0 0).toNat) ((A 0 0 28).toNat) (-1)) 40 ((A 0 0 0).toNat) ((A 0 0 28).toNat) (A 0 0 29)) ) (fun q14 => (if g32 (A 0 0 26) then (if (A 0 0 26) = 0 then (Option.bind (f_Mo_takes q14.2 1 0 5) (fun q19 => (Option.bind (f_Mo_lotsOf (mu q19.2 35 ((A 0 0 0).toNat) ((A 0 0 28).toNat) q19.1) (A 0 0 0) (A 0 0 28)) (fun q22 => (some (0, (mu (mu q22.2 38 ((A 0 0 0).toNat) ((A 0 0 28).toNat) (q22.2 0 0 28)) 37 ((A 0 0 0).toNat) ((A 0 0 28).toNat) (q22.2 0 0 28)))))))) else (if (A 0 0 26) = 1 then (Option.bind (f_Mo_takes q14.2 1 0 5) (fun q37 => (Option.bind (f_Mo_expression (f_Mo_oneN 6) (mu q37.2 35 ((A 0 0 0).toNat) ((A 0 0 28).toNat) q37.1) ) (fun q44 => (some (0, (mu (mu (mu q44.2 39 ((A 0 0 0).toNat) ((A 0 0 28).toNat) q44.1) 38 ((A 0 0 0).toNat) ((A 0 0 28).toNat) (q44.2 0 0 28)) 37 ((A 0 0 0).toNat) ((A 0 0 28).toNat) (q44.2 0 0 28)))))))) else (if (A 0 0 26) = 5 then (Option.bind (f_Mo_takes q14.2 1 0 5) (fun q99 => (Option.bind (f_Mo_takes (mu q99.2 35 ((A 0 0 0).toNat) ((A 0 0 28).toNat) q99.1) 3 0 ((q99.2 0 0 0) - 1)) (fun q105 => (Option.bind (f_Mo_expression (f_Mo_oneN 6) (mu q105.2 36 ((A 0 0 0).toNat) ((A 0 0 28).toNat) q105.1) ) (fun q112 => (some (0, (mu (mu (mu q112.2 39 ((A 0 0 0).toNat) ((A 0 0 28).toNat) q112.1) 38 ((A 0 0 0).toNat) ((A 0 0 28).toNat) (q112.2 0 0 28)) 37 ((A 0 0 0).toNat) ((A 0 0 28).toNat) (q112.2 0 0 28)))))))))) else (if (A 0 0 26) = 4 then (Option.bind (f_Mo_takes q14.2 3 0 9) (fun q84 => (Option.bind (f_Mo_inBraces stp (mu q84.2 36 ((A 0 0 0).toNat) ((A 0 0 28).toNat) q84.1) ) (fun q93 => (some (0, (mu (mu q93.2 38 ((A 0 0 0).toNat) ((A 0 0 28).toNat) (q93.2 0 0 28)) 37 ((A 0 0 0).toNat) ((A 0 0 28).toNat) (q93.2 0 0 28)))))))) else (if (A 0 0 26) = 2 then (Option.bind (f_Mo_expression (f_Mo_oneN 6) q14.2 ) (fun q58 => (some (0, (mu (mu (mu q58.2 39 ((A 0 0 0).toNat) ((A 0 0 28).toNat) q58.1) 38 ((A 0 0 0).toNat) ((A 0 0 28).toNat) (q58.2 0 0 28)) 37 ((A 0 0 0).toNat) ((A 0 0 28).toNat) (q58.2 0 0 28)))))) else (if (A 0 0 26) = 3 then (Option.bind (f_Mo_expression (f_Mo_oneN 6) q14.2 ) (fun q67 => (Option.bind (f_Mo_inBraces stp (mu q67.2 39 ((A 0 0 0).toNat) ((A 0 0 28).toNat) q67.1) ) (fun q70 => (Option.bind (f_Mo_inBraces stp (mu q70.2 38 ((A 0 0 0).toNat) ((A 0 0 28).toNat) (q70.2 0 0 28)) ) (fun q74 => (some (0, (mu q74.2 37 ((A 0 0 0).toNat) ((A 0 0 28).toNat) (q74.2 0 0 28)))))))))) else (some (0, (mu (mu q14.2 38 ((A 0 0 0).toNat) ((A 0 0 28).toNat) (q14.2 0 0 28)) 37 ((A 0 0 0).toNat) ((A 0 0 28).toNat) (q14.2 0 0 28)))))))))) else none))) else none) else none)) else none) else (some (0, (mu A 0 0 31 1)))) else none) else (some (0, (mu A 0 0 31 1)))) else none)
theorem f_x_Mo_stepT_0_1 : mblkB b_Mo_step_0 [(0, .aload_n 0, vi 0)] = true := by decide +kernel
theorem e_x_Mo_stepT_1 : decode b_Mo_step_0 1 = .ok (.getfield 155, 3) := by decide +kernel
theorem e_x_Mo_stepT_4 : decode b_Mo_step_0 4 = .ok (.ifCond .ne 20, 3) := by decide +kernel
theorem f_x_Mo_stepT_24_2 : mblkB b_Mo_step_0 [(24, .aload_n 0, vi 0), (25, .iconst 1, vi 1)] = true := by decide +kernel
theorem e_x_Mo_stepT_26 : decode b_Mo_step_0 26 = .ok (.putfield 155, 3) := by decide +kernel
theorem e_x_Mo_stepT_29 : decode b_Mo_step_0 29 = .ok (.return_, 1) := by decide +kernel
theorem f_x_Mo_stepT_7_1 : mblkB b_Mo_step_0 [(7, .aload_n 0, vi 0)] = true := by decide +kernel
theorem e_x_Mo_stepT_8 : decode b_Mo_step_0 8 = .ok (.getfield 159, 3) := by decide +kernel
theorem f_x_Mo_stepT_11_1 : mblkB b_Mo_step_0 [(11, .iconst 2, vi 2)] = true := by decide +kernel
theorem e_x_Mo_stepT_12 : decode b_Mo_step_0 12 = .ok (.if_icmp .ne 12, 3) := by decide +kernel
theorem f_x_Mo_stepT_15_1 : mblkB b_Mo_step_0 [(15, .aload_n 0, vi 0)] = true := by decide +kernel
theorem e_x_Mo_stepT_16 : decode b_Mo_step_0 16 = .ok (.getfield 192, 3) := by decide +kernel
theorem f_x_Mo_stepT_19_1 : mblkB b_Mo_step_0 [(19, .bipush 16, vi 16)] = true := by decide +kernel
theorem e_x_Mo_stepT_21 : decode b_Mo_step_0 21 = .ok (.if_icmp .ne 9, 3) := by decide +kernel
theorem f_x_Mo_stepT_30_1 : mblkB b_Mo_step_0 [(30, .aload_n 0, vi 0)] = true := by decide +kernel
theorem e_x_Mo_stepT_31 : decode b_Mo_step_0 31 = .ok (.getfield 105, 3) := by decide +kernel
theorem f_x_Mo_stepT_34_2 : mblkB b_Mo_step_0 [(34, .istore_n 1, vi 0), (35, .aload_n 0, vi 0)] = true := by decide +kernel
theorem e_x_Mo_stepT_36 : decode b_Mo_step_0 36 = .ok (.getfield 192, 3) := by decide +kernel
theorem f_x_Mo_stepT_39_2 : mblkB b_Mo_step_0 [(39, .istore_n 2, vi 0), (40, .aload_n 0, vi 0)] = true := by decide +kernel
theorem e_x_Mo_stepT_41 : decode b_Mo_step_0 41 = .ok (.getfield 165, 3) := by decide +kernel
theorem f_x_Mo_stepT_44_3 : mblkB b_Mo_step_0 [(44, .istore_n 3, vi 0), (45, .aload_n 0, vi 0), (46, .dup, vi 0)] = true := by decide +kernel
theorem e_x_Mo_stepT_47 : decode b_Mo_step_0 47 = .ok (.getfield 192, 3) := by decide +kernel
theorem f_x_Mo_stepT_50_2 : mblkB b_Mo_step_0 [(50, .iconst 1, vi 1), (51, .iadd, vi 0)] = true := by decide +kernel
theorem e_x_Mo_stepT_52 : decode b_Mo_step_0 52 = .ok (.putfield 192, 3) := by decide +kernel
theorem f_x_Mo_stepT_55_1 : mblkB b_Mo_step_0 [(55, .aload_n 0, vi 0)] = true := by decide +kernel
theorem e_x_Mo_stepT_56 : decode b_Mo_step_0 56 = .ok (.getfield 21, 3) := by decide +kernel
theorem f_x_Mo_stepT_59_1 : mblkB b_Mo_step_0 [(59, .iload_n 1, vi 0)] = true := by decide +kernel
theorem e_x_Mo_stepT_60 : decode b_Mo_step_0 60 = .ok (.aaload, 1) := by decide +kernel
theorem f_x_Mo_stepT_61_2 : mblkB b_Mo_step_0 [(61, .iload_n 2, vi 0), (62, .iload_n 3, vi 0)] = true := by decide +kernel
theorem e_x_Mo_stepT_63 : decode b_Mo_step_0 63 = .ok (.iastore, 1) := by decide +kernel
theorem f_x_Mo_stepT_64_1 : mblkB b_Mo_step_0 [(64, .aload_n 0, vi 0)] = true := by decide +kernel
theorem e_x_Mo_stepT_65 : decode b_Mo_step_0 65 = .ok (.getfield 24, 3) := by decide +kernel
theorem f_x_Mo_stepT_68_1 : mblkB b_Mo_step_0 [(68, .iload_n 1, vi 0)] = true := by decide +kernel
theorem e_x_Mo_stepT_69 : decode b_Mo_step_0 69 = .ok (.aaload, 1) := by decide +kernel
theorem f_x_Mo_stepT_70_2 : mblkB b_Mo_step_0 [(70, .iload_n 2, vi 0), (71, .iconst (-1), vi (-1))] = true := by decide +kernel
theorem e_x_Mo_stepT_72 : decode b_Mo_step_0 72 = .ok (.iastore, 1) := by decide +kernel
theorem f_x_Mo_stepT_73_1 : mblkB b_Mo_step_0 [(73, .aload_n 0, vi 0)] = true := by decide +kernel
theorem e_x_Mo_stepT_74 : decode b_Mo_step_0 74 = .ok (.getfield 27, 3) := by decide +kernel
theorem f_x_Mo_stepT_77_1 : mblkB b_Mo_step_0 [(77, .iload_n 1, vi 0)] = true := by decide +kernel
theorem e_x_Mo_stepT_78 : decode b_Mo_step_0 78 = .ok (.aaload, 1) := by decide +kernel
theorem f_x_Mo_stepT_79_2 : mblkB b_Mo_step_0 [(79, .iload_n 2, vi 0), (80, .iconst (-1), vi (-1))] = true := by decide +kernel
theorem e_x_Mo_stepT_81 : decode b_Mo_step_0 81 = .ok (.iastore, 1) := by decide +kernel
theorem f_x_Mo_stepT_82_1 : mblkB b_Mo_step_0 [(82, .aload_n 0, vi 0)] = true := by decide +kernel
theorem e_x_Mo_stepT_83 : decode b_Mo_step_0 83 = .ok (.getfield 36, 3) := by decide +kernel
theorem f_x_Mo_stepT_86_1 : mblkB b_Mo_step_0 [(86, .iload_n 1, vi 0)] = true := by decide +kernel
theorem e_x_Mo_stepT_87 : decode b_Mo_step_0 87 = .ok (.aaload, 1) := by decide +kernel
theorem f_x_Mo_stepT_88_2 : mblkB b_Mo_step_0 [(88, .iload_n 2, vi 0), (89, .iconst (-1), vi (-1))] = true := by decide +kernel
theorem e_x_Mo_stepT_90 : decode b_Mo_step_0 90 = .ok (.iastore, 1) := by decide +kernel
theorem f_x_Mo_stepT_91_1 : mblkB b_Mo_step_0 [(91, .aload_n 0, vi 0)] = true := by decide +kernel
theorem e_x_Mo_stepT_92 : decode b_Mo_step_0 92 = .ok (.getfield 39, 3) := by decide +kernel
theorem f_x_Mo_stepT_95_1 : mblkB b_Mo_step_0 [(95, .iload_n 1, vi 0)] = true := by decide +kernel
theorem e_x_Mo_stepT_96 : decode b_Mo_step_0 96 = .ok (.aaload, 1) := by decide +kernel
theorem f_x_Mo_stepT_97_2 : mblkB b_Mo_step_0 [(97, .iload_n 2, vi 0), (98, .aload_n 0, vi 0)] = true := by decide +kernel
theorem e_x_Mo_stepT_99 : decode b_Mo_step_0 99 = .ok (.getfield 195, 3) := by decide +kernel
theorem e_x_Mo_stepT_102 : decode b_Mo_step_0 102 = .ok (.iastore, 1) := by decide +kernel
theorem f_x_Mo_stepT_103_1 : mblkB b_Mo_step_0 [(103, .aload_n 0, vi 0)] = true := by decide +kernel
theorem e_x_Mo_stepT_104 : decode b_Mo_step_0 104 = .ok (.invokevirtual 176, 3) := by decide +kernel
theorem f_x_Mo_stepT_107_1 : mblkB b_Mo_step_0 [(107, .iload_n 3, vi 0)] = true := by decide +kernel
theorem e_x_Mo_stepT_108 : decode b_Mo_step_0 108 = .ok (.ifCond .eq 13, 3) := by decide +kernel
theorem f_x_Mo_stepT_121_1 : mblkB b_Mo_step_0 [(121, .aload_n 0, vi 0)] = true := by decide +kernel
theorem e_x_Mo_stepT_122 : decode b_Mo_step_0 122 = .ok (.getfield 24, 3) := by decide +kernel
theorem f_x_Mo_stepT_125_1 : mblkB b_Mo_step_0 [(125, .iload_n 1, vi 0)] = true := by decide +kernel
theorem e_x_Mo_stepT_126 : decode b_Mo_step_0 126 = .ok (.aaload, 1) := by decide +kernel
theorem f_x_Mo_stepT_127_5 : mblkB b_Mo_step_0 [(127, .iload_n 2, vi 0), (128, .aload_n 0, vi 0), (129, .iconst 1, vi 1), (130, .iconst 0, vi 0), (131, .iconst 5, vi 5)] = true := by decide +kernel
theorem e_x_Mo_stepT_132 : decode b_Mo_step_0 132 = .ok (.invokevirtual 198, 3) := by decide +kernel
theorem e_x_Mo_stepT_135 : decode b_Mo_step_0 135 = .ok (.iastore, 1) := by decide +kernel
theorem f_x_Mo_stepT_136_1 : mblkB b_Mo_step_0 [(136, .iload_n 3, vi 0)] = true := by decide +kernel
theorem e_x_Mo_stepT_137 : decode b_Mo_step_0 137 = .ok (.ifCond .ne 9, 3) := by decide +kernel
theorem f_x_Mo_stepT_140_3 : mblkB b_Mo_step_0 [(140, .aload_n 0, vi 0), (141, .iload_n 1, vi 0), (142, .iload_n 2, vi 0)] = true := by decide +kernel
theorem e_x_Mo_stepT_143 : decode b_Mo_step_0 143 = .ok (.invokevirtual 202, 3) := by decide +kernel
theorem f_x_Mo_stepT_146_2 : mblkB b_Mo_step_0 [(146, .iload_n 3, vi 0), (147, .iconst 4, vi 4)] = true := by decide +kernel
theorem e_x_Mo_stepT_148 : decode b_Mo_step_0 148 = .ok (.if_icmp .ne 19, 3) := by decide +kernel
theorem f_x_Mo_stepT_167_2 : mblkB b_Mo_step_0 [(167, .iload_n 3, vi 0), (168, .iconst 5, vi 5)] = true := by decide +kernel
theorem e_x_Mo_stepT_169 : decode b_Mo_step_0 169 = .ok (.if_icmp .ne 23, 3) := by decide +kernel
theorem f_x_Mo_stepT_192_2 : mblkB b_Mo_step_0 [(192, .iload_n 3, vi 0), (193, .iconst 1, vi 1)] = true := by decide +kernel
theorem e_x_Mo_stepT_194 : decode b_Mo_step_0 194 = .ok (.if_icmp .eq 18, 3) := by decide +kernel
theorem f_x_Mo_stepT_197_2 : mblkB b_Mo_step_0 [(197, .iload_n 3, vi 0), (198, .iconst 2, vi 2)] = true := by decide +kernel
theorem e_x_Mo_stepT_199 : decode b_Mo_step_0 199 = .ok (.if_icmp .eq 13, 3) := by decide +kernel
theorem f_x_Mo_stepT_202_2 : mblkB b_Mo_step_0 [(202, .iload_n 3, vi 0), (203, .iconst 3, vi 3)] = true := by decide +kernel
theorem e_x_Mo_stepT_204 : decode b_Mo_step_0 204 = .ok (.if_icmp .eq 8, 3) := by decide +kernel
theorem f_x_Mo_stepT_207_2 : mblkB b_Mo_step_0 [(207, .iload_n 3, vi 0), (208, .iconst 5, vi 5)] = true := by decide +kernel
theorem e_x_Mo_stepT_209 : decode b_Mo_step_0 209 = .ok (.if_icmp .ne 15, 3) := by decide +kernel
theorem f_x_Mo_stepT_224_2 : mblkB b_Mo_step_0 [(224, .iload_n 3, vi 0), (225, .iconst 3, vi 3)] = true := by decide +kernel
theorem e_x_Mo_stepT_226 : decode b_Mo_step_0 226 = .ok (.if_icmp .eq 8, 3) := by decide +kernel
theorem f_x_Mo_stepT_229_2 : mblkB b_Mo_step_0 [(229, .iload_n 3, vi 0), (230, .iconst 4, vi 4)] = true := by decide +kernel
theorem e_x_Mo_stepT_231 : decode b_Mo_step_0 231 = .ok (.if_icmp .ne 7, 3) := by decide +kernel
theorem f_x_Mo_stepT_238_1 : mblkB b_Mo_step_0 [(238, .aload_n 0, vi 0)] = true := by decide +kernel
theorem e_x_Mo_stepT_239 : decode b_Mo_step_0 239 = .ok (.getfield 33, 3) := by decide +kernel
theorem f_x_Mo_stepT_242_1 : mblkB b_Mo_step_0 [(242, .iload_n 1, vi 0)] = true := by decide +kernel
theorem e_x_Mo_stepT_243 : decode b_Mo_step_0 243 = .ok (.aaload, 1) := by decide +kernel
theorem f_x_Mo_stepT_244_2 : mblkB b_Mo_step_0 [(244, .iload_n 2, vi 0), (245, .aload_n 0, vi 0)] = true := by decide +kernel
theorem e_x_Mo_stepT_246 : decode b_Mo_step_0 246 = .ok (.getfield 192, 3) := by decide +kernel
theorem e_x_Mo_stepT_249 : decode b_Mo_step_0 249 = .ok (.iastore, 1) := by decide +kernel
theorem f_x_Mo_stepT_250_2 : mblkB b_Mo_step_0 [(250, .iload_n 3, vi 0), (251, .iconst 3, vi 3)] = true := by decide +kernel
theorem e_x_Mo_stepT_252 : decode b_Mo_step_0 252 = .ok (.if_icmp .ne 7, 3) := by decide +kernel
theorem f_x_Mo_stepT_259_1 : mblkB b_Mo_step_0 [(259, .aload_n 0, vi 0)] = true := by decide +kernel
theorem e_x_Mo_stepT_260 : decode b_Mo_step_0 260 = .ok (.getfield 30, 3) := by decide +kernel
theorem f_x_Mo_stepT_263_1 : mblkB b_Mo_step_0 [(263, .iload_n 1, vi 0)] = true := by decide +kernel
theorem e_x_Mo_stepT_264 : decode b_Mo_step_0 264 = .ok (.aaload, 1) := by decide +kernel
theorem f_x_Mo_stepT_265_2 : mblkB b_Mo_step_0 [(265, .iload_n 2, vi 0), (266, .aload_n 0, vi 0)] = true := by decide +kernel
theorem e_x_Mo_stepT_267 : decode b_Mo_step_0 267 = .ok (.getfield 192, 3) := by decide +kernel
theorem e_x_Mo_stepT_270 : decode b_Mo_step_0 270 = .ok (.iastore, 1) := by decide +kernel
theorem e_x_Mo_stepT_271 : decode b_Mo_step_0 271 = .ok (.return_, 1) := by decide +kernel
theorem f_x_Mo_stepT_111_2 : mblkB b_Mo_step_0 [(111, .iload_n 3, vi 0), (112, .iconst 1, vi 1)] = true := by decide +kernel
theorem e_x_Mo_stepT_113 : decode b_Mo_step_0 113 = .ok (.if_icmp .eq 8, 3) := by decide +kernel
theorem f_x_Mo_stepT_212_1 : mblkB b_Mo_step_0 [(212, .aload_n 0, vi 0)] = true := by decide +kernel
theorem e_x_Mo_stepT_213 : decode b_Mo_step_0 213 = .ok (.getfield 36, 3) := by decide +kernel
theorem f_x_Mo_stepT_216_1 : mblkB b_Mo_step_0 [(216, .iload_n 1, vi 0)] = true := by decide +kernel
theorem e_x_Mo_stepT_217 : decode b_Mo_step_0 217 = .ok (.aaload, 1) := by decide +kernel
theorem f_x_Mo_stepT_218_2 : mblkB b_Mo_step_0 [(218, .iload_n 2, vi 0), (219, .aload_n 0, vi 0)] = true := by decide +kernel
theorem e_x_Mo_stepT_220 : decode b_Mo_step_0 220 = .ok (.invokevirtual 206, 3) := by decide +kernel
theorem e_x_Mo_stepT_223 : decode b_Mo_step_0 223 = .ok (.iastore, 1) := by decide +kernel
theorem f_x_Mo_stepT_116_2 : mblkB b_Mo_step_0 [(116, .iload_n 3, vi 0), (117, .iconst 5, vi 5)] = true := by decide +kernel
theorem e_x_Mo_stepT_118 : decode b_Mo_step_0 118 = .ok (.if_icmp .ne 18, 3) := by decide +kernel
theorem f_x_Mo_stepT_234_1 : mblkB b_Mo_step_0 [(234, .aload_n 0, vi 0)] = true := by decide +kernel
theorem e_x_Mo_stepT_235 : decode b_Mo_step_0 235 = .ok (.invokevirtual 209, 3) := by decide +kernel
theorem f_x_Mo_stepT_255_1 : mblkB b_Mo_step_0 [(255, .aload_n 0, vi 0)] = true := by decide +kernel
theorem e_x_Mo_stepT_256 : decode b_Mo_step_0 256 = .ok (.invokevirtual 209, 3) := by decide +kernel
theorem f_x_Mo_stepT_151_1 : mblkB b_Mo_step_0 [(151, .aload_n 0, vi 0)] = true := by decide +kernel
theorem e_x_Mo_stepT_152 : decode b_Mo_step_0 152 = .ok (.getfield 27, 3) := by decide +kernel
theorem f_x_Mo_stepT_155_1 : mblkB b_Mo_step_0 [(155, .iload_n 1, vi 0)] = true := by decide +kernel
theorem e_x_Mo_stepT_156 : decode b_Mo_step_0 156 = .ok (.aaload, 1) := by decide +kernel
theorem f_x_Mo_stepT_157_5 : mblkB b_Mo_step_0 [(157, .iload_n 2, vi 0), (158, .aload_n 0, vi 0), (159, .iconst 3, vi 3), (160, .iconst 0, vi 0), (161, .bipush 9, vi 9)] = true := by decide +kernel
theorem e_x_Mo_stepT_163 : decode b_Mo_step_0 163 = .ok (.invokevirtual 198, 3) := by decide +kernel
theorem e_x_Mo_stepT_166 : decode b_Mo_step_0 166 = .ok (.iastore, 1) := by decide +kernel
theorem f_x_Mo_stepT_172_1 : mblkB b_Mo_step_0 [(172, .aload_n 0, vi 0)] = true := by decide +kernel
theorem e_x_Mo_stepT_173 : decode b_Mo_step_0 173 = .ok (.getfield 27, 3) := by decide +kernel
theorem f_x_Mo_stepT_176_1 : mblkB b_Mo_step_0 [(176, .iload_n 1, vi 0)] = true := by decide +kernel
theorem e_x_Mo_stepT_177 : decode b_Mo_step_0 177 = .ok (.aaload, 1) := by decide +kernel
theorem f_x_Mo_stepT_178_5 : mblkB b_Mo_step_0 [(178, .iload_n 2, vi 0), (179, .aload_n 0, vi 0), (180, .iconst 3, vi 3), (181, .iconst 0, vi 0), (182, .aload_n 0, vi 0)] = true := by decide +kernel
theorem e_x_Mo_stepT_183 : decode b_Mo_step_0 183 = .ok (.getfield 105, 3) := by decide +kernel
theorem f_x_Mo_stepT_186_2 : mblkB b_Mo_step_0 [(186, .iconst 1, vi 1), (187, .isub, vi 0)] = true := by decide +kernel
theorem e_x_Mo_stepT_188 : decode b_Mo_step_0 188 = .ok (.invokevirtual 198, 3) := by decide +kernel
theorem e_x_Mo_stepT_191 : decode b_Mo_step_0 191 = .ok (.iastore, 1) := by decide +kernel
set_option maxHeartbeats 4000000 in
set_option maxRecDepth 20000 in
theorem x_Mo_stepT {stp : mA → Option (Int × mA)} {fr lo : Nat} (hstp : ∀ (l : Launch) (D : va_G) (B : Nat) (H0 : Heap) (ad : mAd) (A : mA)  (hS : mStr D ad) (r9 : Int) (A9 : mA), stp A  = some (r9, A9) → mMet l D B H0 ad y_Mo_step_0 b_Mo_step_0 4 none fr lo [vr 0 0] A (fun v A' => v = none ∧ A' = A9)) : ∀ (l : Launch) (D : va_G) (B : Nat) (H0 : Heap) (ad : mAd) (A : mA)  (hS : mStr D ad) (r9 : Int) (A9 : mA), f_Mo_stepT stp A  = some (r9, A9) → mMet l D B H0 ad y_Mo_step_0 b_Mo_step_0 4 none (fr + 244) (lo + 9600) [vr 0 0] A (fun v A' => v = none ∧ A' = A9) := by
  intro l D B H0 ad A   hS r9 A9 h
  refine m_met (by decide) rfl (fun g w0 C Rm Y E => ?_)
  show JM g D ad w0 A 0 [(0, vr 0 0)] []
  unfold f_Mo_stepT at h
  refine m_blk 1 [(0, vr 0 0)] [vr 0 0] C f_x_Mo_stepT_0_1 rfl ?_
  refine m_geti C e_x_Mo_stepT_1 fg_Mo_155 rfl (by decide) rfl (A 0 0 31) rfl ?_
  obtain ⟨c1, h⟩ := igd h
  refine m_if_ne (tgt := 24) C e_x_Mo_stepT_4 (by decide) c1 (fun c2 => ?_) (fun c2 => ?_)
  · have h := ifn c2 h
    refine m_blk 26 [(0, vr 0 0)] [vi 1, vr 0 0] C f_x_Mo_stepT_24_2 rfl ?_
    refine m_putz C e_x_Mo_stepT_26 fp_Mo_155 rfl (by decide) rfl (Or.inr rfl) ?_
    exact m_vret C Rm E e_x_Mo_stepT_29 (fin0 h)
  · have h := ifp c2 h
    refine m_blk 8 [(0, vr 0 0)] [vr 0 0] C f_x_Mo_stepT_7_1 rfl ?_
    refine m_geti C e_x_Mo_stepT_8 fg_Mo_159 rfl (by decide) rfl (A 0 0 25) rfl ?_
    refine m_blk 12 [(0, vr 0 0)] [vi 2, vi (A 0 0 25)] C f_x_Mo_stepT_11_1 rfl ?_
    obtain ⟨c3, h⟩ := igd h
    refine m_icmp_ne (tgt := 24) C e_x_Mo_stepT_12 (by decide) c3 (by decide) (fun c4 => ?_) (fun c4 => ?_)
    · have h := ifn c4 h
      refine m_blk 26 [(0, vr 0 0)] [vi 1, vr 0 0] C f_x_Mo_stepT_24_2 rfl ?_
      refine m_putz C e_x_Mo_stepT_26 fp_Mo_155 rfl (by decide) rfl (Or.inr rfl) ?_
      exact m_vret C Rm E e_x_Mo_stepT_29 (fin0 h)
    · have h := ifp c4 h
      refine m_blk 16 [(0, vr 0 0)] [vr 0 0] C f_x_Mo_stepT_15_1 rfl ?_
      refine m_geti C e_x_Mo_stepT_16 fg_Mo_192 rfl (by decide) rfl (A 0 0 28) rfl ?_
      refine m_blk 21 [(0, vr 0 0)] [vi 16, vi (A 0 0 28)] C f_x_Mo_stepT_19_1 rfl ?_
      obtain ⟨c5, h⟩ := igd h
      refine m_icmp_ne (tgt := 30) C e_x_Mo_stepT_21 (by decide) c5 (by decide) (fun c6 => ?_) (fun c6 => ?_)
      · have h := ifn c6 h
        refine m_blk 31 [(0, vr 0 0)] [vr 0 0] C f_x_Mo_stepT_30_1 rfl ?_
        refine m_geti C e_x_Mo_stepT_31 fg_Mo_105 rfl (by decide) rfl (A 0 0 0) rfl ?_
        refine m_blk 36 [(1, vi (A 0 0 0)), (0, vr 0 0)] [vr 0 0] C f_x_Mo_stepT_34_2 rfl ?_
        refine m_geti C e_x_Mo_stepT_36 fg_Mo_192 rfl (by decide) rfl (A 0 0 28) rfl ?_
        refine m_blk 41 [(2, vi (A 0 0 28)), (1, vi (A 0 0 0)), (0, vr 0 0)] [vr 0 0] C f_x_Mo_stepT_39_2 rfl ?_
        refine m_geti C e_x_Mo_stepT_41 fg_Mo_165 rfl (by decide) rfl (A 0 0 26) rfl ?_
        refine m_blk 47 [(3, vi (A 0 0 26)), (2, vi (A 0 0 28)), (1, vi (A 0 0 0)), (0, vr 0 0)] [vr 0 0, vr 0 0] C f_x_Mo_stepT_44_3 rfl ?_
        refine m_geti C e_x_Mo_stepT_47 fg_Mo_192 rfl (by decide) rfl (A 0 0 28) rfl ?_
        refine m_blk 52 [(3, vi (A 0 0 26)), (2, vi (A 0 0 28)), (1, vi (A 0 0 0)), (0, vr 0 0)] [vi ((A 0 0 28) + 1), vr 0 0] C f_x_Mo_stepT_50_2 rfl ?_
        refine m_puti C e_x_Mo_stepT_52 fp_Mo_192 rfl (by decide) rfl ?_
        refine m_blk 56 [(3, vi (A 0 0 26)), (2, vi (A 0 0 28)), (1, vi (A 0 0 0)), (0, vr 0 0)] [vr 0 0] C f_x_Mo_stepT_55_1 rfl ?_
        refine m_getr C e_x_Mo_stepT_56 fg_Mo_21 rfl (by decide) rfl ?_
        refine m_blk 60 [(3, vi (A 0 0 26)), (2, vi (A 0 0 28)), (1, vi (A 0 0 0)), (0, vr 0 0)] [vi (A 0 0 0), vr 14 0] C f_x_Mo_stepT_59_1 rfl ?_
        obtain ⟨c7, h⟩ := igd h
        have k8 : (A 0 0 0).toNat < 6 := by omega
        refine m_aald C ((A 0 0 0).toNat) e_x_Mo_stepT_60 rfl rfl rfl (by decide) (by decide) c7.1 c7.2 (mz _ _) ?_
        refine m_blk 63 [(3, vi (A 0 0 26)), (2, vi (A 0 0 28)), (1, vi (A 0 0 0)), (0, vr 0 0)] [vi (A 0 0 26), vi (A 0 0 28), vr 34 ((A 0 0 0).toNat)] C f_x_Mo_stepT_61_2 rfl ?_
        obtain ⟨c9, h⟩ := igd h
        refine m_iast C e_x_Mo_stepT_63 rfl k8 (by decide) c9.1 c9.2 ?_
        refine m_blk 65 [(3, vi (A 0 0 26)), (2, vi (A 0 0 28)), (1, vi (A 0 0 0)), (0, vr 0 0)] [vr 0 0] C f_x_Mo_stepT_64_1 rfl ?_
        refine m_getr C e_x_Mo_stepT_65 fg_Mo_24 rfl (by decide) rfl ?_
        refine m_blk 69 [(3, vi (A 0 0 26)), (2, vi (A 0 0 28)), (1, vi (A 0 0 0)), (0, vr 0 0)] [vi (A 0 0 0), vr 15 0] C f_x_Mo_stepT_68_1 rfl ?_
        have k10 : (A 0 0 0).toNat < 6 := by omega
        refine m_aald C ((A 0 0 0).toNat) e_x_Mo_stepT_69 rfl rfl rfl (by decide) (by decide) c7.1 c7.2 (mz _ _) ?_
        refine m_blk 72 [(3, vi (A 0 0 26)), (2, vi (A 0 0 28)), (1, vi (A 0 0 0)), (0, vr 0 0)] [vi (-1), vi (A 0 0 28), vr 35 ((A 0 0 0).toNat)] C f_x_Mo_stepT_70_2 rfl ?_
        refine m_iast C e_x_Mo_stepT_72 rfl k10 (by decide) c9.1 c9.2 ?_
        refine m_blk 74 [(3, vi (A 0 0 26)), (2, vi (A 0 0 28)), (1, vi (A 0 0 0)), (0, vr 0 0)] [vr 0 0] C f_x_Mo_stepT_73_1 rfl ?_
        refine m_getr C e_x_Mo_stepT_74 fg_Mo_27 rfl (by decide) rfl ?_
        refine m_blk 78 [(3, vi (A 0 0 26)), (2, vi (A 0 0 28)), (1, vi (A 0 0 0)), (0, vr 0 0)] [vi (A 0 0 0), vr 16 0] C f_x_Mo_stepT_77_1 rfl ?_
        have k11 : (A 0 0 0).toNat < 6 := by omega
        refine m_aald C ((A 0 0 0).toNat) e_x_Mo_stepT_78 rfl rfl rfl (by decide) (by decide) c7.1 c7.2 (mz _ _) ?_
        refine m_blk 81 [(3, vi (A 0 0 26)), (2, vi (A 0 0 28)), (1, vi (A 0 0 0)), (0, vr 0 0)] [vi (-1), vi (A 0 0 28), vr 36 ((A 0 0 0).toNat)] C f_x_Mo_stepT_79_2 rfl ?_
        refine m_iast C e_x_Mo_stepT_81 rfl k11 (by decide) c9.1 c9.2 ?_
        refine m_blk 83 [(3, vi (A 0 0 26)), (2, vi (A 0 0 28)), (1, vi (A 0 0 0)), (0, vr 0 0)] [vr 0 0] C f_x_Mo_stepT_82_1 rfl ?_
        refine m_getr C e_x_Mo_stepT_83 fg_Mo_36 rfl (by decide) rfl ?_
        refine m_blk 87 [(3, vi (A 0 0 26)), (2, vi (A 0 0 28)), (1, vi (A 0 0 0)), (0, vr 0 0)] [vi (A 0 0 0), vr 19 0] C f_x_Mo_stepT_86_1 rfl ?_
        have k12 : (A 0 0 0).toNat < 6 := by omega
        refine m_aald C ((A 0 0 0).toNat) e_x_Mo_stepT_87 rfl rfl rfl (by decide) (by decide) c7.1 c7.2 (mz _ _) ?_
        refine m_blk 90 [(3, vi (A 0 0 26)), (2, vi (A 0 0 28)), (1, vi (A 0 0 0)), (0, vr 0 0)] [vi (-1), vi (A 0 0 28), vr 39 ((A 0 0 0).toNat)] C f_x_Mo_stepT_88_2 rfl ?_
        refine m_iast C e_x_Mo_stepT_90 rfl k12 (by decide) c9.1 c9.2 ?_
        refine m_blk 92 [(3, vi (A 0 0 26)), (2, vi (A 0 0 28)), (1, vi (A 0 0 0)), (0, vr 0 0)] [vr 0 0] C f_x_Mo_stepT_91_1 rfl ?_
        refine m_getr C e_x_Mo_stepT_92 fg_Mo_39 rfl (by decide) rfl ?_
        refine m_blk 96 [(3, vi (A 0 0 26)), (2, vi (A 0 0 28)), (1, vi (A 0 0 0)), (0, vr 0 0)] [vi (A 0 0 0), vr 20 0] C f_x_Mo_stepT_95_1 rfl ?_
        have k13 : (A 0 0 0).toNat < 6 := by omega
        refine m_aald C ((A 0 0 0).toNat) e_x_Mo_stepT_96 rfl rfl rfl (by decide) (by decide) c7.1 c7.2 (mz _ _) ?_
        refine m_blk 99 [(3, vi (A 0 0 26)), (2, vi (A 0 0 28)), (1, vi (A 0 0 0)), (0, vr 0 0)] [vr 0 0, vi (A 0 0 28), vr 40 ((A 0 0 0).toNat)] C f_x_Mo_stepT_97_2 rfl ?_
        refine m_geti C e_x_Mo_stepT_99 fg_Mo_195 rfl (by decide) rfl (A 0 0 29) rfl ?_
        refine m_iast C e_x_Mo_stepT_102 rfl k13 (by decide) c9.1 c9.2 ?_
        refine m_blk 104 [(3, vi (A 0 0 26)), (2, vi (A 0 0 28)), (1, vi (A 0 0 0)), (0, vr 0 0)] [vr 0 0] C f_x_Mo_stepT_103_1 rfl ?_
        obtain ⟨q14, e15, h⟩ := obd h
        refine m_callV C Rm Y [] [] (x_Mo_next l D B H0 ad _  hS _ _ e15) cl_Mo_176 rfl (by decide) rfl rfl e_x_Mo_stepT_104 rfl rfl rfl ⟨by show _ ≤ ((fr + 244) : Nat); omega, by show _ ≤ ((lo + 9600) : Nat); omega⟩ ?_
        rintro _ _ ⟨rfl, rfl⟩
        show JM g D ad w0 q14.2 107 [(3, vi (A 0 0 26)), (2, vi (A 0 0 28)), (1, vi (A 0 0 0)), (0, vr 0 0)] []
        refine m_blk 108 [(3, vi (A 0 0 26)), (2, vi (A 0 0 28)), (1, vi (A 0 0 0)), (0, vr 0 0)] [vi (A 0 0 26)] C f_x_Mo_stepT_107_1 rfl ?_
        obtain ⟨c16, h⟩ := igd h
        refine m_if_eq (tgt := 121) C e_x_Mo_stepT_108 (by decide) c16 (fun c17 => ?_) (fun c17 => ?_)
        · have h := ifp c17 h
          refine m_blk 122 [(3, vi (A 0 0 26)), (2, vi (A 0 0 28)), (1, vi (A 0 0 0)), (0, vr 0 0)] [vr 0 0] C f_x_Mo_stepT_121_1 rfl ?_
          refine m_getr C e_x_Mo_stepT_122 fg_Mo_24 rfl (by decide) rfl ?_
          refine m_blk 126 [(3, vi (A 0 0 26)), (2, vi (A 0 0 28)), (1, vi (A 0 0 0)), (0, vr 0 0)] [vi (A 0 0 0), vr 15 0] C f_x_Mo_stepT_125_1 rfl ?_
          have k18 : (A 0 0 0).toNat < 6 := by omega
          refine m_aald C ((A 0 0 0).toNat) e_x_Mo_stepT_126 rfl rfl rfl (by decide) (by decide) c7.1 c7.2 (mz _ _) ?_
          refine m_blk 132 [(3, vi (A 0 0 26)), (2, vi (A 0 0 28)), (1, vi (A 0 0 0)), (0, vr 0 0)] [vi 5, vi 0, vi 1, vr 0 0, vi (A 0 0 28), vr 35 ((A 0 0 0).toNat)] C f_x_Mo_stepT_127_5 rfl ?_
          obtain ⟨q19, e20, h⟩ := obd h
          refine m_callV C Rm Y [vi 1, vi 0, vi 5] [vi (A 0 0 28), vr 35 ((A 0 0 0).toNat)] (x_Mo_takes l D B H0 ad _ 1 0 5 hS _ _ e20) cl_Mo_198 rfl (by decide) rfl rfl e_x_Mo_stepT_132 rfl rfl rfl ⟨by show _ ≤ ((fr + 244) : Nat); omega, by show _ ≤ ((lo + 9600) : Nat); omega⟩ ?_
          rintro _ _ ⟨rfl, rfl⟩
          show JM g D ad w0 q19.2 135 [(3, vi (A 0 0 26)), (2, vi (A 0 0 28)), (1, vi (A 0 0 0)), (0, vr 0 0)] [vi q19.1, vi (A 0 0 28), vr 35 ((A 0 0 0).toNat)]
          refine m_iast C e_x_Mo_stepT_135 rfl k18 (by decide) c9.1 c9.2 ?_
          refine m_blk 137 [(3, vi (A 0 0 26)), (2, vi (A 0 0 28)), (1, vi (A 0 0 0)), (0, vr 0 0)] [vi (A 0 0 26)] C f_x_Mo_stepT_136_1 rfl ?_
          refine m_if_ne (tgt := 146) C e_x_Mo_stepT_137 (by decide) c16 (fun c21 => (by omega : False).elim) (fun c21 => ?_)
          refine m_blk 143 [(3, vi (A 0 0 26)), (2, vi (A 0 0 28)), (1, vi (A 0 0 0)), (0, vr 0 0)] [vi (A 0 0 28), vi (A 0 0 0), vr 0 0] C f_x_Mo_stepT_140_3 rfl ?_
          obtain ⟨q22, e23, h⟩ := obd h
          refine m_callV C Rm Y [vi (A 0 0 0), vi (A 0 0 28)] [] (x_Mo_lotsOf l D B H0 ad _ (A 0 0 0) (A 0 0 28) hS _ _ e23) cl_Mo_202 rfl (by decide) rfl rfl e_x_Mo_stepT_143 rfl rfl rfl ⟨by show _ ≤ ((fr + 244) : Nat); omega, by show _ ≤ ((lo + 9600) : Nat); omega⟩ ?_
          rintro _ _ ⟨rfl, rfl⟩
          show JM g D ad w0 q22.2 146 [(3, vi (A 0 0 26)), (2, vi (A 0 0 28)), (1, vi (A 0 0 0)), (0, vr 0 0)] []
          refine m_blk 148 [(3, vi (A 0 0 26)), (2, vi (A 0 0 28)), (1, vi (A 0 0 0)), (0, vr 0 0)] [vi 4, vi (A 0 0 26)] C f_x_Mo_stepT_146_2 rfl ?_
          refine m_icmp_ne (tgt := 167) C e_x_Mo_stepT_148 (by decide) c16 (by decide) (fun c24 => ?_) (fun c24 => (by omega : False).elim)
          refine m_blk 169 [(3, vi (A 0 0 26)), (2, vi (A 0 0 28)), (1, vi (A 0 0 0)), (0, vr 0 0)] [vi 5, vi (A 0 0 26)] C f_x_Mo_stepT_167_2 rfl ?_
          refine m_icmp_ne (tgt := 192) C e_x_Mo_stepT_169 (by decide) c16 (by decide) (fun c25 => ?_) (fun c25 => (by omega : False).elim)
          refine m_blk 194 [(3, vi (A 0 0 26)), (2, vi (A 0 0 28)), (1, vi (A 0 0 0)), (0, vr 0 0)] [vi 1, vi (A 0 0 26)] C f_x_Mo_stepT_192_2 rfl ?_
          refine m_icmp_eq (tgt := 212) C e_x_Mo_stepT_194 (by decide) c16 (by decide) (fun c26 => (by omega : False).elim) (fun c26 => ?_)
          refine m_blk 199 [(3, vi (A 0 0 26)), (2, vi (A 0 0 28)), (1, vi (A 0 0 0)), (0, vr 0 0)] [vi 2, vi (A 0 0 26)] C f_x_Mo_stepT_197_2 rfl ?_
          refine m_icmp_eq (tgt := 212) C e_x_Mo_stepT_199 (by decide) c16 (by decide) (fun c27 => (by omega : False).elim) (fun c27 => ?_)
          refine m_blk 204 [(3, vi (A 0 0 26)), (2, vi (A 0 0 28)), (1, vi (A 0 0 0)), (0, vr 0 0)] [vi 3, vi (A 0 0 26)] C f_x_Mo_stepT_202_2 rfl ?_
          refine m_icmp_eq (tgt := 212) C e_x_Mo_stepT_204 (by decide) c16 (by decide) (fun c28 => (by omega : False).elim) (fun c28 => ?_)
          refine m_blk 209 [(3, vi (A 0 0 26)), (2, vi (A 0 0 28)), (1, vi (A 0 0 0)), (0, vr 0 0)] [vi 5, vi (A 0 0 26)] C f_x_Mo_stepT_207_2 rfl ?_
          refine m_icmp_ne (tgt := 224) C e_x_Mo_stepT_209 (by decide) c16 (by decide) (fun c29 => ?_) (fun c29 => (by omega : False).elim)
          refine m_blk 226 [(3, vi (A 0 0 26)), (2, vi (A 0 0 28)), (1, vi (A 0 0 0)), (0, vr 0 0)] [vi 3, vi (A 0 0 26)] C f_x_Mo_stepT_224_2 rfl ?_
          refine m_icmp_eq (tgt := 234) C e_x_Mo_stepT_226 (by decide) c16 (by decide) (fun c30 => (by omega : False).elim) (fun c30 => ?_)
          refine m_blk 231 [(3, vi (A 0 0 26)), (2, vi (A 0 0 28)), (1, vi (A 0 0 0)), (0, vr 0 0)] [vi 4, vi (A 0 0 26)] C f_x_Mo_stepT_229_2 rfl ?_
          refine m_icmp_ne (tgt := 238) C e_x_Mo_stepT_231 (by decide) c16 (by decide) (fun c31 => ?_) (fun c31 => (by omega : False).elim)
          refine m_blk 239 [(3, vi (A 0 0 26)), (2, vi (A 0 0 28)), (1, vi (A 0 0 0)), (0, vr 0 0)] [vr 0 0] C f_x_Mo_stepT_238_1 rfl ?_
          refine m_getr C e_x_Mo_stepT_239 fg_Mo_33 rfl (by decide) rfl ?_
          refine m_blk 243 [(3, vi (A 0 0 26)), (2, vi (A 0 0 28)), (1, vi (A 0 0 0)), (0, vr 0 0)] [vi (A 0 0 0), vr 18 0] C f_x_Mo_stepT_242_1 rfl ?_
          have k32 : (A 0 0 0).toNat < 6 := by omega
          refine m_aald C ((A 0 0 0).toNat) e_x_Mo_stepT_243 rfl rfl rfl (by decide) (by decide) c7.1 c7.2 (mz _ _) ?_
          refine m_blk 246 [(3, vi (A 0 0 26)), (2, vi (A 0 0 28)), (1, vi (A 0 0 0)), (0, vr 0 0)] [vr 0 0, vi (A 0 0 28), vr 38 ((A 0 0 0).toNat)] C f_x_Mo_stepT_244_2 rfl ?_
          refine m_geti C e_x_Mo_stepT_246 fg_Mo_192 rfl (by decide) rfl (q22.2 0 0 28) rfl ?_
          refine m_iast C e_x_Mo_stepT_249 rfl k32 (by decide) c9.1 c9.2 ?_
          refine m_blk 252 [(3, vi (A 0 0 26)), (2, vi (A 0 0 28)), (1, vi (A 0 0 0)), (0, vr 0 0)] [vi 3, vi (A 0 0 26)] C f_x_Mo_stepT_250_2 rfl ?_
          refine m_icmp_ne (tgt := 259) C e_x_Mo_stepT_252 (by decide) c16 (by decide) (fun c33 => ?_) (fun c33 => (by omega : False).elim)
          refine m_blk 260 [(3, vi (A 0 0 26)), (2, vi (A 0 0 28)), (1, vi (A 0 0 0)), (0, vr 0 0)] [vr 0 0] C f_x_Mo_stepT_259_1 rfl ?_
          refine m_getr C e_x_Mo_stepT_260 fg_Mo_30 rfl (by decide) rfl ?_
          refine m_blk 264 [(3, vi (A 0 0 26)), (2, vi (A 0 0 28)), (1, vi (A 0 0 0)), (0, vr 0 0)] [vi (A 0 0 0), vr 17 0] C f_x_Mo_stepT_263_1 rfl ?_
          have k34 : (A 0 0 0).toNat < 6 := by omega
          refine m_aald C ((A 0 0 0).toNat) e_x_Mo_stepT_264 rfl rfl rfl (by decide) (by decide) c7.1 c7.2 (mz _ _) ?_
          refine m_blk 267 [(3, vi (A 0 0 26)), (2, vi (A 0 0 28)), (1, vi (A 0 0 0)), (0, vr 0 0)] [vr 0 0, vi (A 0 0 28), vr 37 ((A 0 0 0).toNat)] C f_x_Mo_stepT_265_2 rfl ?_
          refine m_geti C e_x_Mo_stepT_267 fg_Mo_192 rfl (by decide) rfl (q22.2 0 0 28) rfl ?_
          refine m_iast C e_x_Mo_stepT_270 rfl k34 (by decide) c9.1 c9.2 ?_
          exact m_vret C Rm E e_x_Mo_stepT_271 (fin0 h)
        · have h := ifn c17 h
          refine m_blk 113 [(3, vi (A 0 0 26)), (2, vi (A 0 0 28)), (1, vi (A 0 0 0)), (0, vr 0 0)] [vi 1, vi (A 0 0 26)] C f_x_Mo_stepT_111_2 rfl ?_
          refine m_icmp_eq (tgt := 121) C e_x_Mo_stepT_113 (by decide) c16 (by decide) (fun c35 => ?_) (fun c35 => ?_)
          · have h := ifp c35 h
            refine m_blk 122 [(3, vi (A 0 0 26)), (2, vi (A 0 0 28)), (1, vi (A 0 0 0)), (0, vr 0 0)] [vr 0 0] C f_x_Mo_stepT_121_1 rfl ?_
            refine m_getr C e_x_Mo_stepT_122 fg_Mo_24 rfl (by decide) rfl ?_
            refine m_blk 126 [(3, vi (A 0 0 26)), (2, vi (A 0 0 28)), (1, vi (A 0 0 0)), (0, vr 0 0)] [vi (A 0 0 0), vr 15 0] C f_x_Mo_stepT_125_1 rfl ?_
            have k36 : (A 0 0 0).toNat < 6 := by omega
            refine m_aald C ((A 0 0 0).toNat) e_x_Mo_stepT_126 rfl rfl rfl (by decide) (by decide) c7.1 c7.2 (mz _ _) ?_
            refine m_blk 132 [(3, vi (A 0 0 26)), (2, vi (A 0 0 28)), (1, vi (A 0 0 0)), (0, vr 0 0)] [vi 5, vi 0, vi 1, vr 0 0, vi (A 0 0 28), vr 35 ((A 0 0 0).toNat)] C f_x_Mo_stepT_127_5 rfl ?_
            obtain ⟨q37, e38, h⟩ := obd h
            refine m_callV C Rm Y [vi 1, vi 0, vi 5] [vi (A 0 0 28), vr 35 ((A 0 0 0).toNat)] (x_Mo_takes l D B H0 ad _ 1 0 5 hS _ _ e38) cl_Mo_198 rfl (by decide) rfl rfl e_x_Mo_stepT_132 rfl rfl rfl ⟨by show _ ≤ ((fr + 244) : Nat); omega, by show _ ≤ ((lo + 9600) : Nat); omega⟩ ?_
            rintro _ _ ⟨rfl, rfl⟩
            show JM g D ad w0 q37.2 135 [(3, vi (A 0 0 26)), (2, vi (A 0 0 28)), (1, vi (A 0 0 0)), (0, vr 0 0)] [vi q37.1, vi (A 0 0 28), vr 35 ((A 0 0 0).toNat)]
            refine m_iast C e_x_Mo_stepT_135 rfl k36 (by decide) c9.1 c9.2 ?_
            refine m_blk 137 [(3, vi (A 0 0 26)), (2, vi (A 0 0 28)), (1, vi (A 0 0 0)), (0, vr 0 0)] [vi (A 0 0 26)] C f_x_Mo_stepT_136_1 rfl ?_
            refine m_if_ne (tgt := 146) C e_x_Mo_stepT_137 (by decide) c16 (fun c39 => ?_) (fun c39 => (by omega : False).elim)
            refine m_blk 148 [(3, vi (A 0 0 26)), (2, vi (A 0 0 28)), (1, vi (A 0 0 0)), (0, vr 0 0)] [vi 4, vi (A 0 0 26)] C f_x_Mo_stepT_146_2 rfl ?_
            refine m_icmp_ne (tgt := 167) C e_x_Mo_stepT_148 (by decide) c16 (by decide) (fun c40 => ?_) (fun c40 => (by omega : False).elim)
            refine m_blk 169 [(3, vi (A 0 0 26)), (2, vi (A 0 0 28)), (1, vi (A 0 0 0)), (0, vr 0 0)] [vi 5, vi (A 0 0 26)] C f_x_Mo_stepT_167_2 rfl ?_
            refine m_icmp_ne (tgt := 192) C e_x_Mo_stepT_169 (by decide) c16 (by decide) (fun c41 => ?_) (fun c41 => (by omega : False).elim)
            refine m_blk 194 [(3, vi (A 0 0 26)), (2, vi (A 0 0 28)), (1, vi (A 0 0 0)), (0, vr 0 0)] [vi 1, vi (A 0 0 26)] C f_x_Mo_stepT_192_2 rfl ?_
            refine m_icmp_eq (tgt := 212) C e_x_Mo_stepT_194 (by decide) c16 (by decide) (fun c42 => ?_) (fun c42 => (by omega : False).elim)
            refine m_blk 213 [(3, vi (A 0 0 26)), (2, vi (A 0 0 28)), (1, vi (A 0 0 0)), (0, vr 0 0)] [vr 0 0] C f_x_Mo_stepT_212_1 rfl ?_
            refine m_getr C e_x_Mo_stepT_213 fg_Mo_36 rfl (by decide) rfl ?_
            refine m_blk 217 [(3, vi (A 0 0 26)), (2, vi (A 0 0 28)), (1, vi (A 0 0 0)), (0, vr 0 0)] [vi (A 0 0 0), vr 19 0] C f_x_Mo_stepT_216_1 rfl ?_
            have k43 : (A 0 0 0).toNat < 6 := by omega
            refine m_aald C ((A 0 0 0).toNat) e_x_Mo_stepT_217 rfl rfl rfl (by decide) (by decide) c7.1 c7.2 (mz _ _) ?_
            refine m_blk 220 [(3, vi (A 0 0 26)), (2, vi (A 0 0 28)), (1, vi (A 0 0 0)), (0, vr 0 0)] [vr 0 0, vi (A 0 0 28), vr 39 ((A 0 0 0).toNat)] C f_x_Mo_stepT_218_2 rfl ?_
            obtain ⟨q44, e45, h⟩ := obd h
            refine m_callV C Rm Y [] [vi (A 0 0 28), vr 39 ((A 0 0 0).toNat)] (x_Mo_expression (x_Mo_oneN 6) l D B H0 ad _  hS _ _ e45) cl_Mo_206 rfl (by decide) rfl rfl e_x_Mo_stepT_220 rfl rfl rfl ⟨by show _ ≤ ((fr + 244) : Nat); omega, by show _ ≤ ((lo + 9600) : Nat); omega⟩ ?_
            rintro _ _ ⟨rfl, rfl⟩
            show JM g D ad w0 q44.2 223 [(3, vi (A 0 0 26)), (2, vi (A 0 0 28)), (1, vi (A 0 0 0)), (0, vr 0 0)] [vi q44.1, vi (A 0 0 28), vr 39 ((A 0 0 0).toNat)]
            refine m_iast C e_x_Mo_stepT_223 rfl k43 (by decide) c9.1 c9.2 ?_
            refine m_blk 226 [(3, vi (A 0 0 26)), (2, vi (A 0 0 28)), (1, vi (A 0 0 0)), (0, vr 0 0)] [vi 3, vi (A 0 0 26)] C f_x_Mo_stepT_224_2 rfl ?_
            refine m_icmp_eq (tgt := 234) C e_x_Mo_stepT_226 (by decide) c16 (by decide) (fun c46 => (by omega : False).elim) (fun c46 => ?_)
            refine m_blk 231 [(3, vi (A 0 0 26)), (2, vi (A 0 0 28)), (1, vi (A 0 0 0)), (0, vr 0 0)] [vi 4, vi (A 0 0 26)] C f_x_Mo_stepT_229_2 rfl ?_
            refine m_icmp_ne (tgt := 238) C e_x_Mo_stepT_231 (by decide) c16 (by decide) (fun c47 => ?_) (fun c47 => (by omega : False).elim)
            refine m_blk 239 [(3, vi (A 0 0 26)), (2, vi (A 0 0 28)), (1, vi (A 0 0 0)), (0, vr 0 0)] [vr 0 0] C f_x_Mo_stepT_238_1 rfl ?_
            refine m_getr C e_x_Mo_stepT_239 fg_Mo_33 rfl (by decide) rfl ?_
            refine m_blk 243 [(3, vi (A 0 0 26)), (2, vi (A 0 0 28)), (1, vi (A 0 0 0)), (0, vr 0 0)] [vi (A 0 0 0), vr 18 0] C f_x_Mo_stepT_242_1 rfl ?_
            have k48 : (A 0 0 0).toNat < 6 := by omega
            refine m_aald C ((A 0 0 0).toNat) e_x_Mo_stepT_243 rfl rfl rfl (by decide) (by decide) c7.1 c7.2 (mz _ _) ?_
            refine m_blk 246 [(3, vi (A 0 0 26)), (2, vi (A 0 0 28)), (1, vi (A 0 0 0)), (0, vr 0 0)] [vr 0 0, vi (A 0 0 28), vr 38 ((A 0 0 0).toNat)] C f_x_Mo_stepT_244_2 rfl ?_
            refine m_geti C e_x_Mo_stepT_246 fg_Mo_192 rfl (by decide) rfl (q44.2 0 0 28) rfl ?_
            refine m_iast C e_x_Mo_stepT_249 rfl k48 (by decide) c9.1 c9.2 ?_
            refine m_blk 252 [(3, vi (A 0 0 26)), (2, vi (A 0 0 28)), (1, vi (A 0 0 0)), (0, vr 0 0)] [vi 3, vi (A 0 0 26)] C f_x_Mo_stepT_250_2 rfl ?_
            refine m_icmp_ne (tgt := 259) C e_x_Mo_stepT_252 (by decide) c16 (by decide) (fun c49 => ?_) (fun c49 => (by omega : False).elim)
            refine m_blk 260 [(3, vi (A 0 0 26)), (2, vi (A 0 0 28)), (1, vi (A 0 0 0)), (0, vr 0 0)] [vr 0 0] C f_x_Mo_stepT_259_1 rfl ?_
            refine m_getr C e_x_Mo_stepT_260 fg_Mo_30 rfl (by decide) rfl ?_
            refine m_blk 264 [(3, vi (A 0 0 26)), (2, vi (A 0 0 28)), (1, vi (A 0 0 0)), (0, vr 0 0)] [vi (A 0 0 0), vr 17 0] C f_x_Mo_stepT_263_1 rfl ?_
            have k50 : (A 0 0 0).toNat < 6 := by omega
            refine m_aald C ((A 0 0 0).toNat) e_x_Mo_stepT_264 rfl rfl rfl (by decide) (by decide) c7.1 c7.2 (mz _ _) ?_
            refine m_blk 267 [(3, vi (A 0 0 26)), (2, vi (A 0 0 28)), (1, vi (A 0 0 0)), (0, vr 0 0)] [vr 0 0, vi (A 0 0 28), vr 37 ((A 0 0 0).toNat)] C f_x_Mo_stepT_265_2 rfl ?_
            refine m_geti C e_x_Mo_stepT_267 fg_Mo_192 rfl (by decide) rfl (q44.2 0 0 28) rfl ?_
            refine m_iast C e_x_Mo_stepT_270 rfl k50 (by decide) c9.1 c9.2 ?_
            exact m_vret C Rm E e_x_Mo_stepT_271 (fin0 h)
          · have h := ifn c35 h
            refine m_blk 118 [(3, vi (A 0 0 26)), (2, vi (A 0 0 28)), (1, vi (A 0 0 0)), (0, vr 0 0)] [vi 5, vi (A 0 0 26)] C f_x_Mo_stepT_116_2 rfl ?_
            refine m_icmp_ne (tgt := 136) C e_x_Mo_stepT_118 (by decide) c16 (by decide) (fun c51 => ?_) (fun c51 => ?_)
            · have h := ifn c51 h
              refine m_blk 137 [(3, vi (A 0 0 26)), (2, vi (A 0 0 28)), (1, vi (A 0 0 0)), (0, vr 0 0)] [vi (A 0 0 26)] C f_x_Mo_stepT_136_1 rfl ?_
              refine m_if_ne (tgt := 146) C e_x_Mo_stepT_137 (by decide) c16 (fun c52 => ?_) (fun c52 => (by omega : False).elim)
              refine m_blk 148 [(3, vi (A 0 0 26)), (2, vi (A 0 0 28)), (1, vi (A 0 0 0)), (0, vr 0 0)] [vi 4, vi (A 0 0 26)] C f_x_Mo_stepT_146_2 rfl ?_
              refine m_icmp_ne (tgt := 167) C e_x_Mo_stepT_148 (by decide) c16 (by decide) (fun c53 => ?_) (fun c53 => ?_)
              · have h := ifn c53 h
                refine m_blk 169 [(3, vi (A 0 0 26)), (2, vi (A 0 0 28)), (1, vi (A 0 0 0)), (0, vr 0 0)] [vi 5, vi (A 0 0 26)] C f_x_Mo_stepT_167_2 rfl ?_
                refine m_icmp_ne (tgt := 192) C e_x_Mo_stepT_169 (by decide) c16 (by decide) (fun c54 => ?_) (fun c54 => (by omega : False).elim)
                refine m_blk 194 [(3, vi (A 0 0 26)), (2, vi (A 0 0 28)), (1, vi (A 0 0 0)), (0, vr 0 0)] [vi 1, vi (A 0 0 26)] C f_x_Mo_stepT_192_2 rfl ?_
                refine m_icmp_eq (tgt := 212) C e_x_Mo_stepT_194 (by decide) c16 (by decide) (fun c55 => (by omega : False).elim) (fun c55 => ?_)
                refine m_blk 199 [(3, vi (A 0 0 26)), (2, vi (A 0 0 28)), (1, vi (A 0 0 0)), (0, vr 0 0)] [vi 2, vi (A 0 0 26)] C f_x_Mo_stepT_197_2 rfl ?_
                refine m_icmp_eq (tgt := 212) C e_x_Mo_stepT_199 (by decide) c16 (by decide) (fun c56 => ?_) (fun c56 => ?_)
                · have h := ifp c56 h
                  refine m_blk 213 [(3, vi (A 0 0 26)), (2, vi (A 0 0 28)), (1, vi (A 0 0 0)), (0, vr 0 0)] [vr 0 0] C f_x_Mo_stepT_212_1 rfl ?_
                  refine m_getr C e_x_Mo_stepT_213 fg_Mo_36 rfl (by decide) rfl ?_
                  refine m_blk 217 [(3, vi (A 0 0 26)), (2, vi (A 0 0 28)), (1, vi (A 0 0 0)), (0, vr 0 0)] [vi (A 0 0 0), vr 19 0] C f_x_Mo_stepT_216_1 rfl ?_
                  have k57 : (A 0 0 0).toNat < 6 := by omega
                  refine m_aald C ((A 0 0 0).toNat) e_x_Mo_stepT_217 rfl rfl rfl (by decide) (by decide) c7.1 c7.2 (mz _ _) ?_
                  refine m_blk 220 [(3, vi (A 0 0 26)), (2, vi (A 0 0 28)), (1, vi (A 0 0 0)), (0, vr 0 0)] [vr 0 0, vi (A 0 0 28), vr 39 ((A 0 0 0).toNat)] C f_x_Mo_stepT_218_2 rfl ?_
                  obtain ⟨q58, e59, h⟩ := obd h
                  refine m_callV C Rm Y [] [vi (A 0 0 28), vr 39 ((A 0 0 0).toNat)] (x_Mo_expression (x_Mo_oneN 6) l D B H0 ad _  hS _ _ e59) cl_Mo_206 rfl (by decide) rfl rfl e_x_Mo_stepT_220 rfl rfl rfl ⟨by show _ ≤ ((fr + 244) : Nat); omega, by show _ ≤ ((lo + 9600) : Nat); omega⟩ ?_
                  rintro _ _ ⟨rfl, rfl⟩
                  show JM g D ad w0 q58.2 223 [(3, vi (A 0 0 26)), (2, vi (A 0 0 28)), (1, vi (A 0 0 0)), (0, vr 0 0)] [vi q58.1, vi (A 0 0 28), vr 39 ((A 0 0 0).toNat)]
                  refine m_iast C e_x_Mo_stepT_223 rfl k57 (by decide) c9.1 c9.2 ?_
                  refine m_blk 226 [(3, vi (A 0 0 26)), (2, vi (A 0 0 28)), (1, vi (A 0 0 0)), (0, vr 0 0)] [vi 3, vi (A 0 0 26)] C f_x_Mo_stepT_224_2 rfl ?_
                  refine m_icmp_eq (tgt := 234) C e_x_Mo_stepT_226 (by decide) c16 (by decide) (fun c60 => (by omega : False).elim) (fun c60 => ?_)
                  refine m_blk 231 [(3, vi (A 0 0 26)), (2, vi (A 0 0 28)), (1, vi (A 0 0 0)), (0, vr 0 0)] [vi 4, vi (A 0 0 26)] C f_x_Mo_stepT_229_2 rfl ?_
                  refine m_icmp_ne (tgt := 238) C e_x_Mo_stepT_231 (by decide) c16 (by decide) (fun c61 => ?_) (fun c61 => (by omega : False).elim)
                  refine m_blk 239 [(3, vi (A 0 0 26)), (2, vi (A 0 0 28)), (1, vi (A 0 0 0)), (0, vr 0 0)] [vr 0 0] C f_x_Mo_stepT_238_1 rfl ?_
                  refine m_getr C e_x_Mo_stepT_239 fg_Mo_33 rfl (by decide) rfl ?_
                  refine m_blk 243 [(3, vi (A 0 0 26)), (2, vi (A 0 0 28)), (1, vi (A 0 0 0)), (0, vr 0 0)] [vi (A 0 0 0), vr 18 0] C f_x_Mo_stepT_242_1 rfl ?_
                  have k62 : (A 0 0 0).toNat < 6 := by omega
                  refine m_aald C ((A 0 0 0).toNat) e_x_Mo_stepT_243 rfl rfl rfl (by decide) (by decide) c7.1 c7.2 (mz _ _) ?_
                  refine m_blk 246 [(3, vi (A 0 0 26)), (2, vi (A 0 0 28)), (1, vi (A 0 0 0)), (0, vr 0 0)] [vr 0 0, vi (A 0 0 28), vr 38 ((A 0 0 0).toNat)] C f_x_Mo_stepT_244_2 rfl ?_
                  refine m_geti C e_x_Mo_stepT_246 fg_Mo_192 rfl (by decide) rfl (q58.2 0 0 28) rfl ?_
                  refine m_iast C e_x_Mo_stepT_249 rfl k62 (by decide) c9.1 c9.2 ?_
                  refine m_blk 252 [(3, vi (A 0 0 26)), (2, vi (A 0 0 28)), (1, vi (A 0 0 0)), (0, vr 0 0)] [vi 3, vi (A 0 0 26)] C f_x_Mo_stepT_250_2 rfl ?_
                  refine m_icmp_ne (tgt := 259) C e_x_Mo_stepT_252 (by decide) c16 (by decide) (fun c63 => ?_) (fun c63 => (by omega : False).elim)
                  refine m_blk 260 [(3, vi (A 0 0 26)), (2, vi (A 0 0 28)), (1, vi (A 0 0 0)), (0, vr 0 0)] [vr 0 0] C f_x_Mo_stepT_259_1 rfl ?_
                  refine m_getr C e_x_Mo_stepT_260 fg_Mo_30 rfl (by decide) rfl ?_
                  refine m_blk 264 [(3, vi (A 0 0 26)), (2, vi (A 0 0 28)), (1, vi (A 0 0 0)), (0, vr 0 0)] [vi (A 0 0 0), vr 17 0] C f_x_Mo_stepT_263_1 rfl ?_
                  have k64 : (A 0 0 0).toNat < 6 := by omega
                  refine m_aald C ((A 0 0 0).toNat) e_x_Mo_stepT_264 rfl rfl rfl (by decide) (by decide) c7.1 c7.2 (mz _ _) ?_
                  refine m_blk 267 [(3, vi (A 0 0 26)), (2, vi (A 0 0 28)), (1, vi (A 0 0 0)), (0, vr 0 0)] [vr 0 0, vi (A 0 0 28), vr 37 ((A 0 0 0).toNat)] C f_x_Mo_stepT_265_2 rfl ?_
                  refine m_geti C e_x_Mo_stepT_267 fg_Mo_192 rfl (by decide) rfl (q58.2 0 0 28) rfl ?_
                  refine m_iast C e_x_Mo_stepT_270 rfl k64 (by decide) c9.1 c9.2 ?_
                  exact m_vret C Rm E e_x_Mo_stepT_271 (fin0 h)
                · have h := ifn c56 h
                  refine m_blk 204 [(3, vi (A 0 0 26)), (2, vi (A 0 0 28)), (1, vi (A 0 0 0)), (0, vr 0 0)] [vi 3, vi (A 0 0 26)] C f_x_Mo_stepT_202_2 rfl ?_
                  refine m_icmp_eq (tgt := 212) C e_x_Mo_stepT_204 (by decide) c16 (by decide) (fun c65 => ?_) (fun c65 => ?_)
                  · have h := ifp c65 h
                    refine m_blk 213 [(3, vi (A 0 0 26)), (2, vi (A 0 0 28)), (1, vi (A 0 0 0)), (0, vr 0 0)] [vr 0 0] C f_x_Mo_stepT_212_1 rfl ?_
                    refine m_getr C e_x_Mo_stepT_213 fg_Mo_36 rfl (by decide) rfl ?_
                    refine m_blk 217 [(3, vi (A 0 0 26)), (2, vi (A 0 0 28)), (1, vi (A 0 0 0)), (0, vr 0 0)] [vi (A 0 0 0), vr 19 0] C f_x_Mo_stepT_216_1 rfl ?_
                    have k66 : (A 0 0 0).toNat < 6 := by omega
                    refine m_aald C ((A 0 0 0).toNat) e_x_Mo_stepT_217 rfl rfl rfl (by decide) (by decide) c7.1 c7.2 (mz _ _) ?_
                    refine m_blk 220 [(3, vi (A 0 0 26)), (2, vi (A 0 0 28)), (1, vi (A 0 0 0)), (0, vr 0 0)] [vr 0 0, vi (A 0 0 28), vr 39 ((A 0 0 0).toNat)] C f_x_Mo_stepT_218_2 rfl ?_
                    obtain ⟨q67, e68, h⟩ := obd h
                    refine m_callV C Rm Y [] [vi (A 0 0 28), vr 39 ((A 0 0 0).toNat)] (x_Mo_expression (x_Mo_oneN 6) l D B H0 ad _  hS _ _ e68) cl_Mo_206 rfl (by decide) rfl rfl e_x_Mo_stepT_220 rfl rfl rfl ⟨by show _ ≤ ((fr + 244) : Nat); omega, by show _ ≤ ((lo + 9600) : Nat); omega⟩ ?_
                    rintro _ _ ⟨rfl, rfl⟩
                    show JM g D ad w0 q67.2 223 [(3, vi (A 0 0 26)), (2, vi (A 0 0 28)), (1, vi (A 0 0 0)), (0, vr 0 0)] [vi q67.1, vi (A 0 0 28), vr 39 ((A 0 0 0).toNat)]
                    refine m_iast C e_x_Mo_stepT_223 rfl k66 (by decide) c9.1 c9.2 ?_
                    refine m_blk 226 [(3, vi (A 0 0 26)), (2, vi (A 0 0 28)), (1, vi (A 0 0 0)), (0, vr 0 0)] [vi 3, vi (A 0 0 26)] C f_x_Mo_stepT_224_2 rfl ?_
                    refine m_icmp_eq (tgt := 234) C e_x_Mo_stepT_226 (by decide) c16 (by decide) (fun c69 => ?_) (fun c69 => (by omega : False).elim)
                    refine m_blk 235 [(3, vi (A 0 0 26)), (2, vi (A 0 0 28)), (1, vi (A 0 0 0)), (0, vr 0 0)] [vr 0 0] C f_x_Mo_stepT_234_1 rfl ?_
                    obtain ⟨q70, e71, h⟩ := obd h
                    refine m_callV C Rm Y [] [] (x_Mo_inBraces hstp l D B H0 ad _  hS _ _ e71) cl_Mo_209 rfl (by decide) rfl rfl e_x_Mo_stepT_235 rfl rfl rfl ⟨by show _ ≤ ((fr + 244) : Nat); omega, by show _ ≤ ((lo + 9600) : Nat); omega⟩ ?_
                    rintro _ _ ⟨rfl, rfl⟩
                    show JM g D ad w0 q70.2 238 [(3, vi (A 0 0 26)), (2, vi (A 0 0 28)), (1, vi (A 0 0 0)), (0, vr 0 0)] []
                    refine m_blk 239 [(3, vi (A 0 0 26)), (2, vi (A 0 0 28)), (1, vi (A 0 0 0)), (0, vr 0 0)] [vr 0 0] C f_x_Mo_stepT_238_1 rfl ?_
                    refine m_getr C e_x_Mo_stepT_239 fg_Mo_33 rfl (by decide) rfl ?_
                    refine m_blk 243 [(3, vi (A 0 0 26)), (2, vi (A 0 0 28)), (1, vi (A 0 0 0)), (0, vr 0 0)] [vi (A 0 0 0), vr 18 0] C f_x_Mo_stepT_242_1 rfl ?_
                    have k72 : (A 0 0 0).toNat < 6 := by omega
                    refine m_aald C ((A 0 0 0).toNat) e_x_Mo_stepT_243 rfl rfl rfl (by decide) (by decide) c7.1 c7.2 (mz _ _) ?_
                    refine m_blk 246 [(3, vi (A 0 0 26)), (2, vi (A 0 0 28)), (1, vi (A 0 0 0)), (0, vr 0 0)] [vr 0 0, vi (A 0 0 28), vr 38 ((A 0 0 0).toNat)] C f_x_Mo_stepT_244_2 rfl ?_
                    refine m_geti C e_x_Mo_stepT_246 fg_Mo_192 rfl (by decide) rfl (q70.2 0 0 28) rfl ?_
                    refine m_iast C e_x_Mo_stepT_249 rfl k72 (by decide) c9.1 c9.2 ?_
                    refine m_blk 252 [(3, vi (A 0 0 26)), (2, vi (A 0 0 28)), (1, vi (A 0 0 0)), (0, vr 0 0)] [vi 3, vi (A 0 0 26)] C f_x_Mo_stepT_250_2 rfl ?_
                    refine m_icmp_ne (tgt := 259) C e_x_Mo_stepT_252 (by decide) c16 (by decide) (fun c73 => (by omega : False).elim) (fun c73 => ?_)
                    refine m_blk 256 [(3, vi (A 0 0 26)), (2, vi (A 0 0 28)), (1, vi (A 0 0 0)), (0, vr 0 0)] [vr 0 0] C f_x_Mo_stepT_255_1 rfl ?_
                    obtain ⟨q74, e75, h⟩ := obd h
                    refine m_callV C Rm Y [] [] (x_Mo_inBraces hstp l D B H0 ad _  hS _ _ e75) cl_Mo_209 rfl (by decide) rfl rfl e_x_Mo_stepT_256 rfl rfl rfl ⟨by show _ ≤ ((fr + 244) : Nat); omega, by show _ ≤ ((lo + 9600) : Nat); omega⟩ ?_
                    rintro _ _ ⟨rfl, rfl⟩
                    show JM g D ad w0 q74.2 259 [(3, vi (A 0 0 26)), (2, vi (A 0 0 28)), (1, vi (A 0 0 0)), (0, vr 0 0)] []
                    refine m_blk 260 [(3, vi (A 0 0 26)), (2, vi (A 0 0 28)), (1, vi (A 0 0 0)), (0, vr 0 0)] [vr 0 0] C f_x_Mo_stepT_259_1 rfl ?_
                    refine m_getr C e_x_Mo_stepT_260 fg_Mo_30 rfl (by decide) rfl ?_
                    refine m_blk 264 [(3, vi (A 0 0 26)), (2, vi (A 0 0 28)), (1, vi (A 0 0 0)), (0, vr 0 0)] [vi (A 0 0 0), vr 17 0] C f_x_Mo_stepT_263_1 rfl ?_
                    have k76 : (A 0 0 0).toNat < 6 := by omega
                    refine m_aald C ((A 0 0 0).toNat) e_x_Mo_stepT_264 rfl rfl rfl (by decide) (by decide) c7.1 c7.2 (mz _ _) ?_
                    refine m_blk 267 [(3, vi (A 0 0 26)), (2, vi (A 0 0 28)), (1, vi (A 0 0 0)), (0, vr 0 0)] [vr 0 0, vi (A 0 0 28), vr 37 ((A 0 0 0).toNat)] C f_x_Mo_stepT_265_2 rfl ?_
                    refine m_geti C e_x_Mo_stepT_267 fg_Mo_192 rfl (by decide) rfl (q74.2 0 0 28) rfl ?_
                    refine m_iast C e_x_Mo_stepT_270 rfl k76 (by decide) c9.1 c9.2 ?_
                    exact m_vret C Rm E e_x_Mo_stepT_271 (fin0 h)
                  · have h := ifn c65 h
                    refine m_blk 209 [(3, vi (A 0 0 26)), (2, vi (A 0 0 28)), (1, vi (A 0 0 0)), (0, vr 0 0)] [vi 5, vi (A 0 0 26)] C f_x_Mo_stepT_207_2 rfl ?_
                    refine m_icmp_ne (tgt := 224) C e_x_Mo_stepT_209 (by decide) c16 (by decide) (fun c77 => ?_) (fun c77 => (by omega : False).elim)
                    refine m_blk 226 [(3, vi (A 0 0 26)), (2, vi (A 0 0 28)), (1, vi (A 0 0 0)), (0, vr 0 0)] [vi 3, vi (A 0 0 26)] C f_x_Mo_stepT_224_2 rfl ?_
                    refine m_icmp_eq (tgt := 234) C e_x_Mo_stepT_226 (by decide) c16 (by decide) (fun c78 => (by omega : False).elim) (fun c78 => ?_)
                    refine m_blk 231 [(3, vi (A 0 0 26)), (2, vi (A 0 0 28)), (1, vi (A 0 0 0)), (0, vr 0 0)] [vi 4, vi (A 0 0 26)] C f_x_Mo_stepT_229_2 rfl ?_
                    refine m_icmp_ne (tgt := 238) C e_x_Mo_stepT_231 (by decide) c16 (by decide) (fun c79 => ?_) (fun c79 => (by omega : False).elim)
                    refine m_blk 239 [(3, vi (A 0 0 26)), (2, vi (A 0 0 28)), (1, vi (A 0 0 0)), (0, vr 0 0)] [vr 0 0] C f_x_Mo_stepT_238_1 rfl ?_
                    refine m_getr C e_x_Mo_stepT_239 fg_Mo_33 rfl (by decide) rfl ?_
                    refine m_blk 243 [(3, vi (A 0 0 26)), (2, vi (A 0 0 28)), (1, vi (A 0 0 0)), (0, vr 0 0)] [vi (A 0 0 0), vr 18 0] C f_x_Mo_stepT_242_1 rfl ?_
                    have k80 : (A 0 0 0).toNat < 6 := by omega
                    refine m_aald C ((A 0 0 0).toNat) e_x_Mo_stepT_243 rfl rfl rfl (by decide) (by decide) c7.1 c7.2 (mz _ _) ?_
                    refine m_blk 246 [(3, vi (A 0 0 26)), (2, vi (A 0 0 28)), (1, vi (A 0 0 0)), (0, vr 0 0)] [vr 0 0, vi (A 0 0 28), vr 38 ((A 0 0 0).toNat)] C f_x_Mo_stepT_244_2 rfl ?_
                    refine m_geti C e_x_Mo_stepT_246 fg_Mo_192 rfl (by decide) rfl (q14.2 0 0 28) rfl ?_
                    refine m_iast C e_x_Mo_stepT_249 rfl k80 (by decide) c9.1 c9.2 ?_
                    refine m_blk 252 [(3, vi (A 0 0 26)), (2, vi (A 0 0 28)), (1, vi (A 0 0 0)), (0, vr 0 0)] [vi 3, vi (A 0 0 26)] C f_x_Mo_stepT_250_2 rfl ?_
                    refine m_icmp_ne (tgt := 259) C e_x_Mo_stepT_252 (by decide) c16 (by decide) (fun c81 => ?_) (fun c81 => (by omega : False).elim)
                    refine m_blk 260 [(3, vi (A 0 0 26)), (2, vi (A 0 0 28)), (1, vi (A 0 0 0)), (0, vr 0 0)] [vr 0 0] C f_x_Mo_stepT_259_1 rfl ?_
                    refine m_getr C e_x_Mo_stepT_260 fg_Mo_30 rfl (by decide) rfl ?_
                    refine m_blk 264 [(3, vi (A 0 0 26)), (2, vi (A 0 0 28)), (1, vi (A 0 0 0)), (0, vr 0 0)] [vi (A 0 0 0), vr 17 0] C f_x_Mo_stepT_263_1 rfl ?_
                    have k82 : (A 0 0 0).toNat < 6 := by omega
                    refine m_aald C ((A 0 0 0).toNat) e_x_Mo_stepT_264 rfl rfl rfl (by decide) (by decide) c7.1 c7.2 (mz _ _) ?_
                    refine m_blk 267 [(3, vi (A 0 0 26)), (2, vi (A 0 0 28)), (1, vi (A 0 0 0)), (0, vr 0 0)] [vr 0 0, vi (A 0 0 28), vr 37 ((A 0 0 0).toNat)] C f_x_Mo_stepT_265_2 rfl ?_
                    refine m_geti C e_x_Mo_stepT_267 fg_Mo_192 rfl (by decide) rfl (q14.2 0 0 28) rfl ?_
                    refine m_iast C e_x_Mo_stepT_270 rfl k82 (by decide) c9.1 c9.2 ?_
                    exact m_vret C Rm E e_x_Mo_stepT_271 (fin0 h)
              · have h := ifp c53 h
                refine m_blk 152 [(3, vi (A 0 0 26)), (2, vi (A 0 0 28)), (1, vi (A 0 0 0)), (0, vr 0 0)] [vr 0 0] C f_x_Mo_stepT_151_1 rfl ?_
                refine m_getr C e_x_Mo_stepT_152 fg_Mo_27 rfl (by decide) rfl ?_
                refine m_blk 156 [(3, vi (A 0 0 26)), (2, vi (A 0 0 28)), (1, vi (A 0 0 0)), (0, vr 0 0)] [vi (A 0 0 0), vr 16 0] C f_x_Mo_stepT_155_1 rfl ?_
                have k83 : (A 0 0 0).toNat < 6 := by omega
                refine m_aald C ((A 0 0 0).toNat) e_x_Mo_stepT_156 rfl rfl rfl (by decide) (by decide) c7.1 c7.2 (mz _ _) ?_
                refine m_blk 163 [(3, vi (A 0 0 26)), (2, vi (A 0 0 28)), (1, vi (A 0 0 0)), (0, vr 0 0)] [vi 9, vi 0, vi 3, vr 0 0, vi (A 0 0 28), vr 36 ((A 0 0 0).toNat)] C f_x_Mo_stepT_157_5 rfl ?_
                obtain ⟨q84, e85, h⟩ := obd h
                refine m_callV C Rm Y [vi 3, vi 0, vi 9] [vi (A 0 0 28), vr 36 ((A 0 0 0).toNat)] (x_Mo_takes l D B H0 ad _ 3 0 9 hS _ _ e85) cl_Mo_198 rfl (by decide) rfl rfl e_x_Mo_stepT_163 rfl rfl rfl ⟨by show _ ≤ ((fr + 244) : Nat); omega, by show _ ≤ ((lo + 9600) : Nat); omega⟩ ?_
                rintro _ _ ⟨rfl, rfl⟩
                show JM g D ad w0 q84.2 166 [(3, vi (A 0 0 26)), (2, vi (A 0 0 28)), (1, vi (A 0 0 0)), (0, vr 0 0)] [vi q84.1, vi (A 0 0 28), vr 36 ((A 0 0 0).toNat)]
                refine m_iast C e_x_Mo_stepT_166 rfl k83 (by decide) c9.1 c9.2 ?_
                refine m_blk 169 [(3, vi (A 0 0 26)), (2, vi (A 0 0 28)), (1, vi (A 0 0 0)), (0, vr 0 0)] [vi 5, vi (A 0 0 26)] C f_x_Mo_stepT_167_2 rfl ?_
                refine m_icmp_ne (tgt := 192) C e_x_Mo_stepT_169 (by decide) c16 (by decide) (fun c86 => ?_) (fun c86 => (by omega : False).elim)
                refine m_blk 194 [(3, vi (A 0 0 26)), (2, vi (A 0 0 28)), (1, vi (A 0 0 0)), (0, vr 0 0)] [vi 1, vi (A 0 0 26)] C f_x_Mo_stepT_192_2 rfl ?_
                refine m_icmp_eq (tgt := 212) C e_x_Mo_stepT_194 (by decide) c16 (by decide) (fun c87 => (by omega : False).elim) (fun c87 => ?_)
                refine m_blk 199 [(3, vi (A 0 0 26)), (2, vi (A 0 0 28)), (1, vi (A 0 0 0)), (0, vr 0 0)] [vi 2, vi (A 0 0 26)] C f_x_Mo_stepT_197_2 rfl ?_
                refine m_icmp_eq (tgt := 212) C e_x_Mo_stepT_199 (by decide) c16 (by decide) (fun c88 => (by omega : False).elim) (fun c88 => ?_)
                refine m_blk 204 [(3, vi (A 0 0 26)), (2, vi (A 0 0 28)), (1, vi (A 0 0 0)), (0, vr 0 0)] [vi 3, vi (A 0 0 26)] C f_x_Mo_stepT_202_2 rfl ?_
                refine m_icmp_eq (tgt := 212) C e_x_Mo_stepT_204 (by decide) c16 (by decide) (fun c89 => (by omega : False).elim) (fun c89 => ?_)
                refine m_blk 209 [(3, vi (A 0 0 26)), (2, vi (A 0 0 28)), (1, vi (A 0 0 0)), (0, vr 0 0)] [vi 5, vi (A 0 0 26)] C f_x_Mo_stepT_207_2 rfl ?_
                refine m_icmp_ne (tgt := 224) C e_x_Mo_stepT_209 (by decide) c16 (by decide) (fun c90 => ?_) (fun c90 => (by omega : False).elim)
                refine m_blk 226 [(3, vi (A 0 0 26)), (2, vi (A 0 0 28)), (1, vi (A 0 0 0)), (0, vr 0 0)] [vi 3, vi (A 0 0 26)] C f_x_Mo_stepT_224_2 rfl ?_
                refine m_icmp_eq (tgt := 234) C e_x_Mo_stepT_226 (by decide) c16 (by decide) (fun c91 => (by omega : False).elim) (fun c91 => ?_)
                refine m_blk 231 [(3, vi (A 0 0 26)), (2, vi (A 0 0 28)), (1, vi (A 0 0 0)), (0, vr 0 0)] [vi 4, vi (A 0 0 26)] C f_x_Mo_stepT_229_2 rfl ?_
                refine m_icmp_ne (tgt := 238) C e_x_Mo_stepT_231 (by decide) c16 (by decide) (fun c92 => (by omega : False).elim) (fun c92 => ?_)
                refine m_blk 235 [(3, vi (A 0 0 26)), (2, vi (A 0 0 28)), (1, vi (A 0 0 0)), (0, vr 0 0)] [vr 0 0] C f_x_Mo_stepT_234_1 rfl ?_
                obtain ⟨q93, e94, h⟩ := obd h
                refine m_callV C Rm Y [] [] (x_Mo_inBraces hstp l D B H0 ad _  hS _ _ e94) cl_Mo_209 rfl (by decide) rfl rfl e_x_Mo_stepT_235 rfl rfl rfl ⟨by show _ ≤ ((fr + 244) : Nat); omega, by show _ ≤ ((lo + 9600) : Nat); omega⟩ ?_
                rintro _ _ ⟨rfl, rfl⟩
                show JM g D ad w0 q93.2 238 [(3, vi (A 0 0 26)), (2, vi (A 0 0 28)), (1, vi (A 0 0 0)), (0, vr 0 0)] []
                refine m_blk 239 [(3, vi (A 0 0 26)), (2, vi (A 0 0 28)), (1, vi (A 0 0 0)), (0, vr 0 0)] [vr 0 0] C f_x_Mo_stepT_238_1 rfl ?_
                refine m_getr C e_x_Mo_stepT_239 fg_Mo_33 rfl (by decide) rfl ?_
                refine m_blk 243 [(3, vi (A 0 0 26)), (2, vi (A 0 0 28)), (1, vi (A 0 0 0)), (0, vr 0 0)] [vi (A 0 0 0), vr 18 0] C f_x_Mo_stepT_242_1 rfl ?_
                have k95 : (A 0 0 0).toNat < 6 := by omega
                refine m_aald C ((A 0 0 0).toNat) e_x_Mo_stepT_243 rfl rfl rfl (by decide) (by decide) c7.1 c7.2 (mz _ _) ?_
                refine m_blk 246 [(3, vi (A 0 0 26)), (2, vi (A 0 0 28)), (1, vi (A 0 0 0)), (0, vr 0 0)] [vr 0 0, vi (A 0 0 28), vr 38 ((A 0 0 0).toNat)] C f_x_Mo_stepT_244_2 rfl ?_
                refine m_geti C e_x_Mo_stepT_246 fg_Mo_192 rfl (by decide) rfl (q93.2 0 0 28) rfl ?_
                refine m_iast C e_x_Mo_stepT_249 rfl k95 (by decide) c9.1 c9.2 ?_
                refine m_blk 252 [(3, vi (A 0 0 26)), (2, vi (A 0 0 28)), (1, vi (A 0 0 0)), (0, vr 0 0)] [vi 3, vi (A 0 0 26)] C f_x_Mo_stepT_250_2 rfl ?_
                refine m_icmp_ne (tgt := 259) C e_x_Mo_stepT_252 (by decide) c16 (by decide) (fun c96 => ?_) (fun c96 => (by omega : False).elim)
                refine m_blk 260 [(3, vi (A 0 0 26)), (2, vi (A 0 0 28)), (1, vi (A 0 0 0)), (0, vr 0 0)] [vr 0 0] C f_x_Mo_stepT_259_1 rfl ?_
                refine m_getr C e_x_Mo_stepT_260 fg_Mo_30 rfl (by decide) rfl ?_
                refine m_blk 264 [(3, vi (A 0 0 26)), (2, vi (A 0 0 28)), (1, vi (A 0 0 0)), (0, vr 0 0)] [vi (A 0 0 0), vr 17 0] C f_x_Mo_stepT_263_1 rfl ?_
                have k97 : (A 0 0 0).toNat < 6 := by omega
                refine m_aald C ((A 0 0 0).toNat) e_x_Mo_stepT_264 rfl rfl rfl (by decide) (by decide) c7.1 c7.2 (mz _ _) ?_
                refine m_blk 267 [(3, vi (A 0 0 26)), (2, vi (A 0 0 28)), (1, vi (A 0 0 0)), (0, vr 0 0)] [vr 0 0, vi (A 0 0 28), vr 37 ((A 0 0 0).toNat)] C f_x_Mo_stepT_265_2 rfl ?_
                refine m_geti C e_x_Mo_stepT_267 fg_Mo_192 rfl (by decide) rfl (q93.2 0 0 28) rfl ?_
                refine m_iast C e_x_Mo_stepT_270 rfl k97 (by decide) c9.1 c9.2 ?_
                exact m_vret C Rm E e_x_Mo_stepT_271 (fin0 h)
            · have h := ifp c51 h
              refine m_blk 122 [(3, vi (A 0 0 26)), (2, vi (A 0 0 28)), (1, vi (A 0 0 0)), (0, vr 0 0)] [vr 0 0] C f_x_Mo_stepT_121_1 rfl ?_
              refine m_getr C e_x_Mo_stepT_122 fg_Mo_24 rfl (by decide) rfl ?_
              refine m_blk 126 [(3, vi (A 0 0 26)), (2, vi (A 0 0 28)), (1, vi (A 0 0 0)), (0, vr 0 0)] [vi (A 0 0 0), vr 15 0] C f_x_Mo_stepT_125_1 rfl ?_
              have k98 : (A 0 0 0).toNat < 6 := by omega
              refine m_aald C ((A 0 0 0).toNat) e_x_Mo_stepT_126 rfl rfl rfl (by decide) (by decide) c7.1 c7.2 (mz _ _) ?_
              refine m_blk 132 [(3, vi (A 0 0 26)), (2, vi (A 0 0 28)), (1, vi (A 0 0 0)), (0, vr 0 0)] [vi 5, vi 0, vi 1, vr 0 0, vi (A 0 0 28), vr 35 ((A 0 0 0).toNat)] C f_x_Mo_stepT_127_5 rfl ?_
              obtain ⟨q99, e100, h⟩ := obd h
              refine m_callV C Rm Y [vi 1, vi 0, vi 5] [vi (A 0 0 28), vr 35 ((A 0 0 0).toNat)] (x_Mo_takes l D B H0 ad _ 1 0 5 hS _ _ e100) cl_Mo_198 rfl (by decide) rfl rfl e_x_Mo_stepT_132 rfl rfl rfl ⟨by show _ ≤ ((fr + 244) : Nat); omega, by show _ ≤ ((lo + 9600) : Nat); omega⟩ ?_
              rintro _ _ ⟨rfl, rfl⟩
              show JM g D ad w0 q99.2 135 [(3, vi (A 0 0 26)), (2, vi (A 0 0 28)), (1, vi (A 0 0 0)), (0, vr 0 0)] [vi q99.1, vi (A 0 0 28), vr 35 ((A 0 0 0).toNat)]
              refine m_iast C e_x_Mo_stepT_135 rfl k98 (by decide) c9.1 c9.2 ?_
              refine m_blk 137 [(3, vi (A 0 0 26)), (2, vi (A 0 0 28)), (1, vi (A 0 0 0)), (0, vr 0 0)] [vi (A 0 0 26)] C f_x_Mo_stepT_136_1 rfl ?_
              refine m_if_ne (tgt := 146) C e_x_Mo_stepT_137 (by decide) c16 (fun c101 => ?_) (fun c101 => (by omega : False).elim)
              refine m_blk 148 [(3, vi (A 0 0 26)), (2, vi (A 0 0 28)), (1, vi (A 0 0 0)), (0, vr 0 0)] [vi 4, vi (A 0 0 26)] C f_x_Mo_stepT_146_2 rfl ?_
              refine m_icmp_ne (tgt := 167) C e_x_Mo_stepT_148 (by decide) c16 (by decide) (fun c102 => ?_) (fun c102 => (by omega : False).elim)
              refine m_blk 169 [(3, vi (A 0 0 26)), (2, vi (A 0 0 28)), (1, vi (A 0 0 0)), (0, vr 0 0)] [vi 5, vi (A 0 0 26)] C f_x_Mo_stepT_167_2 rfl ?_
              refine m_icmp_ne (tgt := 192) C e_x_Mo_stepT_169 (by decide) c16 (by decide) (fun c103 => (by omega : False).elim) (fun c103 => ?_)
              refine m_blk 173 [(3, vi (A 0 0 26)), (2, vi (A 0 0 28)), (1, vi (A 0 0 0)), (0, vr 0 0)] [vr 0 0] C f_x_Mo_stepT_172_1 rfl ?_
              refine m_getr C e_x_Mo_stepT_173 fg_Mo_27 rfl (by decide) rfl ?_
              refine m_blk 177 [(3, vi (A 0 0 26)), (2, vi (A 0 0 28)), (1, vi (A 0 0 0)), (0, vr 0 0)] [vi (A 0 0 0), vr 16 0] C f_x_Mo_stepT_176_1 rfl ?_
              have k104 : (A 0 0 0).toNat < 6 := by omega
              refine m_aald C ((A 0 0 0).toNat) e_x_Mo_stepT_177 rfl rfl rfl (by decide) (by decide) c7.1 c7.2 (mz _ _) ?_
              refine m_blk 183 [(3, vi (A 0 0 26)), (2, vi (A 0 0 28)), (1, vi (A 0 0 0)), (0, vr 0 0)] [vr 0 0, vi 0, vi 3, vr 0 0, vi (A 0 0 28), vr 36 ((A 0 0 0).toNat)] C f_x_Mo_stepT_178_5 rfl ?_
              refine m_geti C e_x_Mo_stepT_183 fg_Mo_105 rfl (by decide) rfl (q99.2 0 0 0) rfl ?_
              refine m_blk 188 [(3, vi (A 0 0 26)), (2, vi (A 0 0 28)), (1, vi (A 0 0 0)), (0, vr 0 0)] [vi ((q99.2 0 0 0) - 1), vi 0, vi 3, vr 0 0, vi (A 0 0 28), vr 36 ((A 0 0 0).toNat)] C f_x_Mo_stepT_186_2 rfl ?_
              obtain ⟨q105, e106, h⟩ := obd h
              refine m_callV C Rm Y [vi 3, vi 0, vi ((q99.2 0 0 0) - 1)] [vi (A 0 0 28), vr 36 ((A 0 0 0).toNat)] (x_Mo_takes l D B H0 ad _ 3 0 ((q99.2 0 0 0) - 1) hS _ _ e106) cl_Mo_198 rfl (by decide) rfl rfl e_x_Mo_stepT_188 rfl rfl rfl ⟨by show _ ≤ ((fr + 244) : Nat); omega, by show _ ≤ ((lo + 9600) : Nat); omega⟩ ?_
              rintro _ _ ⟨rfl, rfl⟩
              show JM g D ad w0 q105.2 191 [(3, vi (A 0 0 26)), (2, vi (A 0 0 28)), (1, vi (A 0 0 0)), (0, vr 0 0)] [vi q105.1, vi (A 0 0 28), vr 36 ((A 0 0 0).toNat)]
              refine m_iast C e_x_Mo_stepT_191 rfl k104 (by decide) c9.1 c9.2 ?_
              refine m_blk 194 [(3, vi (A 0 0 26)), (2, vi (A 0 0 28)), (1, vi (A 0 0 0)), (0, vr 0 0)] [vi 1, vi (A 0 0 26)] C f_x_Mo_stepT_192_2 rfl ?_
              refine m_icmp_eq (tgt := 212) C e_x_Mo_stepT_194 (by decide) c16 (by decide) (fun c107 => (by omega : False).elim) (fun c107 => ?_)
              refine m_blk 199 [(3, vi (A 0 0 26)), (2, vi (A 0 0 28)), (1, vi (A 0 0 0)), (0, vr 0 0)] [vi 2, vi (A 0 0 26)] C f_x_Mo_stepT_197_2 rfl ?_
              refine m_icmp_eq (tgt := 212) C e_x_Mo_stepT_199 (by decide) c16 (by decide) (fun c108 => (by omega : False).elim) (fun c108 => ?_)
              refine m_blk 204 [(3, vi (A 0 0 26)), (2, vi (A 0 0 28)), (1, vi (A 0 0 0)), (0, vr 0 0)] [vi 3, vi (A 0 0 26)] C f_x_Mo_stepT_202_2 rfl ?_
              refine m_icmp_eq (tgt := 212) C e_x_Mo_stepT_204 (by decide) c16 (by decide) (fun c109 => (by omega : False).elim) (fun c109 => ?_)
              refine m_blk 209 [(3, vi (A 0 0 26)), (2, vi (A 0 0 28)), (1, vi (A 0 0 0)), (0, vr 0 0)] [vi 5, vi (A 0 0 26)] C f_x_Mo_stepT_207_2 rfl ?_
              refine m_icmp_ne (tgt := 224) C e_x_Mo_stepT_209 (by decide) c16 (by decide) (fun c110 => (by omega : False).elim) (fun c110 => ?_)
              refine m_blk 213 [(3, vi (A 0 0 26)), (2, vi (A 0 0 28)), (1, vi (A 0 0 0)), (0, vr 0 0)] [vr 0 0] C f_x_Mo_stepT_212_1 rfl ?_
              refine m_getr C e_x_Mo_stepT_213 fg_Mo_36 rfl (by decide) rfl ?_
              refine m_blk 217 [(3, vi (A 0 0 26)), (2, vi (A 0 0 28)), (1, vi (A 0 0 0)), (0, vr 0 0)] [vi (A 0 0 0), vr 19 0] C f_x_Mo_stepT_216_1 rfl ?_
              have k111 : (A 0 0 0).toNat < 6 := by omega
              refine m_aald C ((A 0 0 0).toNat) e_x_Mo_stepT_217 rfl rfl rfl (by decide) (by decide) c7.1 c7.2 (mz _ _) ?_
              refine m_blk 220 [(3, vi (A 0 0 26)), (2, vi (A 0 0 28)), (1, vi (A 0 0 0)), (0, vr 0 0)] [vr 0 0, vi (A 0 0 28), vr 39 ((A 0 0 0).toNat)] C f_x_Mo_stepT_218_2 rfl ?_
              obtain ⟨q112, e113, h⟩ := obd h
              refine m_callV C Rm Y [] [vi (A 0 0 28), vr 39 ((A 0 0 0).toNat)] (x_Mo_expression (x_Mo_oneN 6) l D B H0 ad _  hS _ _ e113) cl_Mo_206 rfl (by decide) rfl rfl e_x_Mo_stepT_220 rfl rfl rfl ⟨by show _ ≤ ((fr + 244) : Nat); omega, by show _ ≤ ((lo + 9600) : Nat); omega⟩ ?_
              rintro _ _ ⟨rfl, rfl⟩
              show JM g D ad w0 q112.2 223 [(3, vi (A 0 0 26)), (2, vi (A 0 0 28)), (1, vi (A 0 0 0)), (0, vr 0 0)] [vi q112.1, vi (A 0 0 28), vr 39 ((A 0 0 0).toNat)]
              refine m_iast C e_x_Mo_stepT_223 rfl k111 (by decide) c9.1 c9.2 ?_
              refine m_blk 226 [(3, vi (A 0 0 26)), (2, vi (A 0 0 28)), (1, vi (A 0 0 0)), (0, vr 0 0)] [vi 3, vi (A 0 0 26)] C f_x_Mo_stepT_224_2 rfl ?_
              refine m_icmp_eq (tgt := 234) C e_x_Mo_stepT_226 (by decide) c16 (by decide) (fun c114 => (by omega : False).elim) (fun c114 => ?_)
              refine m_blk 231 [(3, vi (A 0 0 26)), (2, vi (A 0 0 28)), (1, vi (A 0 0 0)), (0, vr 0 0)] [vi 4, vi (A 0 0 26)] C f_x_Mo_stepT_229_2 rfl ?_
              refine m_icmp_ne (tgt := 238) C e_x_Mo_stepT_231 (by decide) c16 (by decide) (fun c115 => ?_) (fun c115 => (by omega : False).elim)
              refine m_blk 239 [(3, vi (A 0 0 26)), (2, vi (A 0 0 28)), (1, vi (A 0 0 0)), (0, vr 0 0)] [vr 0 0] C f_x_Mo_stepT_238_1 rfl ?_
              refine m_getr C e_x_Mo_stepT_239 fg_Mo_33 rfl (by decide) rfl ?_
              refine m_blk 243 [(3, vi (A 0 0 26)), (2, vi (A 0 0 28)), (1, vi (A 0 0 0)), (0, vr 0 0)] [vi (A 0 0 0), vr 18 0] C f_x_Mo_stepT_242_1 rfl ?_
              have k116 : (A 0 0 0).toNat < 6 := by omega
              refine m_aald C ((A 0 0 0).toNat) e_x_Mo_stepT_243 rfl rfl rfl (by decide) (by decide) c7.1 c7.2 (mz _ _) ?_
              refine m_blk 246 [(3, vi (A 0 0 26)), (2, vi (A 0 0 28)), (1, vi (A 0 0 0)), (0, vr 0 0)] [vr 0 0, vi (A 0 0 28), vr 38 ((A 0 0 0).toNat)] C f_x_Mo_stepT_244_2 rfl ?_
              refine m_geti C e_x_Mo_stepT_246 fg_Mo_192 rfl (by decide) rfl (q112.2 0 0 28) rfl ?_
              refine m_iast C e_x_Mo_stepT_249 rfl k116 (by decide) c9.1 c9.2 ?_
              refine m_blk 252 [(3, vi (A 0 0 26)), (2, vi (A 0 0 28)), (1, vi (A 0 0 0)), (0, vr 0 0)] [vi 3, vi (A 0 0 26)] C f_x_Mo_stepT_250_2 rfl ?_
              refine m_icmp_ne (tgt := 259) C e_x_Mo_stepT_252 (by decide) c16 (by decide) (fun c117 => ?_) (fun c117 => (by omega : False).elim)
              refine m_blk 260 [(3, vi (A 0 0 26)), (2, vi (A 0 0 28)), (1, vi (A 0 0 0)), (0, vr 0 0)] [vr 0 0] C f_x_Mo_stepT_259_1 rfl ?_
              refine m_getr C e_x_Mo_stepT_260 fg_Mo_30 rfl (by decide) rfl ?_
              refine m_blk 264 [(3, vi (A 0 0 26)), (2, vi (A 0 0 28)), (1, vi (A 0 0 0)), (0, vr 0 0)] [vi (A 0 0 0), vr 17 0] C f_x_Mo_stepT_263_1 rfl ?_
              have k118 : (A 0 0 0).toNat < 6 := by omega
              refine m_aald C ((A 0 0 0).toNat) e_x_Mo_stepT_264 rfl rfl rfl (by decide) (by decide) c7.1 c7.2 (mz _ _) ?_
              refine m_blk 267 [(3, vi (A 0 0 26)), (2, vi (A 0 0 28)), (1, vi (A 0 0 0)), (0, vr 0 0)] [vr 0 0, vi (A 0 0 28), vr 37 ((A 0 0 0).toNat)] C f_x_Mo_stepT_265_2 rfl ?_
              refine m_geti C e_x_Mo_stepT_267 fg_Mo_192 rfl (by decide) rfl (q112.2 0 0 28) rfl ?_
              refine m_iast C e_x_Mo_stepT_270 rfl k118 (by decide) c9.1 c9.2 ?_
              exact m_vret C Rm E e_x_Mo_stepT_271 (fin0 h)
      · have h := ifp c6 h
        refine m_blk 26 [(0, vr 0 0)] [vi 1, vr 0 0] C f_x_Mo_stepT_24_2 rfl ?_
        refine m_putz C e_x_Mo_stepT_26 fp_Mo_155 rfl (by decide) rfl (Or.inr rfl) ?_
        exact m_vret C Rm E e_x_Mo_stepT_29 (fin0 h)

def f_Mo_stepN : Nat → mA → Option (Int × mA)
  | 0, _ => none
  | n + 1, A => f_Mo_stepT (f_Mo_stepN n) A
theorem x_Mo_stepN : ∀ n : Nat, ∀ (l : Launch) (D : va_G) (B : Nat) (H0 : Heap) (ad : mAd) (A : mA)  (hS : mStr D ad) (r9 : Int) (A9 : mA), f_Mo_stepN n A  = some (r9, A9) → mMet l D B H0 ad y_Mo_step_0 b_Mo_step_0 4 none (244 * n) (9600 * n) [vr 0 0] A (fun v A' => v = none ∧ A' = A9) := by
  intro n
  induction n with
  | zero => intro l D B H0 ad A hS r9 A9 h; cases h
  | succ n ih =>
    intro l D B H0 ad A hS r9 A9 h
    have k := x_Mo_stepT ih l D B H0 ad A hS r9 A9 h
    have e1 : 244 * (n + 1) = 244 * n + 244 := by omega
    have e2 : 9600 * (n + 1) = 9600 * n + 9600 := by omega
    rw [e1, e2]
    exact k
def f_Mo_lotsAll_5 : Nat → mA → Int → Int → Int → Int → Option (Int × mA)
  | 0, _, _, _, _, _ => none
  | n + 1, A, b1, b2, b3, b4 => (if (0 ≤ b1 ∧ b1 < ((6 : Nat) : Int)) then (if (0 ≤ b2 ∧ b2 < ((16 : Nat) : Int)) then (if g32 b4 then if g32 (A 36 b1.toNat b2.toNat) then (if (A 36 b1.toNat b2.toNat) ≤ b4 then (some (b3, A)) else (if (0 ≤ ((A 40 b1.toNat b2.toNat) + b4) ∧ ((A 40 b1.toNat b2.toNat) + b4) < ((120 : Nat) : Int)) then (f_Mo_lotsAll_5  n A b1 b2 (b3 + (A 42 b1.toNat (((A 40 b1.toNat b2.toNat) + b4).toNat))) (b4 + 1)) else none)) else none else none) else none) else none)
def f_Mo_lotsAll (A : mA) (a0 : Int) (a1 : Int) : Option (Int × mA) := (f_Mo_lotsAll_5  20 A a0 a1 0 0)
theorem f_x_Mo_lotsAll_0_4 : mblkB b_Mo_lotsAll [(0, .iconst 0, vi 0), (1, .istore_n 3, vi 0), (2, .iconst 0, vi 0), (3, .istore 4, vi 0)] = true := by decide +kernel
theorem f_x_Mo_lotsAll_5_2 : mblkB b_Mo_lotsAll [(5, .iload 4, vi 0), (7, .aload_n 0, vi 0)] = true := by decide +kernel
theorem e_x_Mo_lotsAll_8 : decode b_Mo_lotsAll 8 = .ok (.getfield 27, 3) := by decide +kernel
theorem f_x_Mo_lotsAll_11_1 : mblkB b_Mo_lotsAll [(11, .iload_n 1, vi 0)] = true := by decide +kernel
theorem e_x_Mo_lotsAll_12 : decode b_Mo_lotsAll 12 = .ok (.aaload, 1) := by decide +kernel
theorem f_x_Mo_lotsAll_13_1 : mblkB b_Mo_lotsAll [(13, .iload_n 2, vi 0)] = true := by decide +kernel
theorem e_x_Mo_lotsAll_14 : decode b_Mo_lotsAll 14 = .ok (.iaload, 1) := by decide +kernel
theorem e_x_Mo_lotsAll_15 : decode b_Mo_lotsAll 15 = .ok (.if_icmp .ge 30, 3) := by decide +kernel
theorem f_x_Mo_lotsAll_45_1 : mblkB b_Mo_lotsAll [(45, .iload_n 3, vi 0)] = true := by decide +kernel
theorem e_x_Mo_lotsAll_46 : decode b_Mo_lotsAll 46 = .ok (.ireturn, 1) := by decide +kernel
theorem f_x_Mo_lotsAll_18_2 : mblkB b_Mo_lotsAll [(18, .iload_n 3, vi 0), (19, .aload_n 0, vi 0)] = true := by decide +kernel
theorem e_x_Mo_lotsAll_20 : decode b_Mo_lotsAll 20 = .ok (.getfield 45, 3) := by decide +kernel
theorem f_x_Mo_lotsAll_23_1 : mblkB b_Mo_lotsAll [(23, .iload_n 1, vi 0)] = true := by decide +kernel
theorem e_x_Mo_lotsAll_24 : decode b_Mo_lotsAll 24 = .ok (.aaload, 1) := by decide +kernel
theorem f_x_Mo_lotsAll_25_1 : mblkB b_Mo_lotsAll [(25, .aload_n 0, vi 0)] = true := by decide +kernel
theorem e_x_Mo_lotsAll_26 : decode b_Mo_lotsAll 26 = .ok (.getfield 39, 3) := by decide +kernel
theorem f_x_Mo_lotsAll_29_1 : mblkB b_Mo_lotsAll [(29, .iload_n 1, vi 0)] = true := by decide +kernel
theorem e_x_Mo_lotsAll_30 : decode b_Mo_lotsAll 30 = .ok (.aaload, 1) := by decide +kernel
theorem f_x_Mo_lotsAll_31_1 : mblkB b_Mo_lotsAll [(31, .iload_n 2, vi 0)] = true := by decide +kernel
theorem e_x_Mo_lotsAll_32 : decode b_Mo_lotsAll 32 = .ok (.iaload, 1) := by decide +kernel
theorem f_x_Mo_lotsAll_33_2 : mblkB b_Mo_lotsAll [(33, .iload 4, vi 0), (35, .iadd, vi 0)] = true := by decide +kernel
theorem e_x_Mo_lotsAll_36 : decode b_Mo_lotsAll 36 = .ok (.iaload, 1) := by decide +kernel
theorem f_x_Mo_lotsAll_37_4 : mblkB b_Mo_lotsAll [(37, .iadd, vi 0), (38, .istore_n 3, vi 0), (39, .iinc 4 1, vi 1), (42, .goto (-37), vi 5)] = true := by decide +kernel
set_option maxHeartbeats 4000000 in
set_option maxRecDepth 20000 in
theorem x_Mo_lotsAll  : ∀ (l : Launch) (D : va_G) (B : Nat) (H0 : Heap) (ad : mAd) (A : mA) (a0 : Int) (a1 : Int) (hS : mStr D ad) (r9 : Int) (A9 : mA), f_Mo_lotsAll  A a0 a1 = some (r9, A9) → mMet l D B H0 ad y_Mo_lotsAll b_Mo_lotsAll 5 (some .int) 0 0 [vr 0 0, vi a0, vi a1] A (fun v A' => v = some (vi r9) ∧ A' = A9) := by
  intro l D B H0 ad A a0 a1  hS r9 A9 h
  refine m_met (by decide) rfl (fun g w0 C Rm Y E => ?_)
  have hd_5 : ∀ (n : Nat) (A : mA) (b1 : Int) (b2 : Int) (b3 : Int) (b4 : Int) , f_Mo_lotsAll_5  n A b1 b2 b3 b4 = some (r9, A9) → JM g D ad w0 A 5 [(0, vr 0 0), (1, vi b1), (2, vi b2), (3, vi b3), (4, vi b4)] [] := by
    intro n
    induction n with
    | zero => intro A b1 b2 b3 b4  h; cases h
    | succ n ih =>
      intro A b1 b2 b3 b4  h
      unfold f_Mo_lotsAll_5 at h
      refine m_blk 8 [(0, vr 0 0), (1, vi b1), (2, vi b2), (3, vi b3), (4, vi b4)] [vr 0 0, vi b4] C f_x_Mo_lotsAll_5_2 rfl ?_
      refine m_getr C e_x_Mo_lotsAll_8 fg_Mo_27 rfl (by decide) rfl ?_
      refine m_blk 12 [(0, vr 0 0), (1, vi b1), (2, vi b2), (3, vi b3), (4, vi b4)] [vi b1, vr 16 0, vi b4] C f_x_Mo_lotsAll_11_1 rfl ?_
      obtain ⟨c1, h⟩ := igd h
      have k2 : b1.toNat < 6 := by omega
      refine m_aald C b1.toNat e_x_Mo_lotsAll_12 rfl rfl rfl (by decide) (by decide) c1.1 c1.2 (mz _ _) ?_
      refine m_blk 14 [(0, vr 0 0), (1, vi b1), (2, vi b2), (3, vi b3), (4, vi b4)] [vi b2, vr 36 b1.toNat, vi b4] C f_x_Mo_lotsAll_13_1 rfl ?_
      obtain ⟨c3, h⟩ := igd h
      refine m_iald C e_x_Mo_lotsAll_14 rfl k2 (by decide) c3.1 c3.2 (A 36 b1.toNat b2.toNat) rfl ?_
      obtain ⟨c4, h⟩ := igd h
      obtain ⟨c5, h⟩ := igd h
      refine m_icmp_ge (tgt := 45) C e_x_Mo_lotsAll_15 (by decide) c4 c5 (fun c6 => ?_) (fun c6 => ?_)
      · have h := ifp c6 h
        refine m_blk 46 [(0, vr 0 0), (1, vi b1), (2, vi b2), (3, vi b3), (4, vi b4)] [vi b3] C f_x_Mo_lotsAll_45_1 rfl ?_
        exact m_iret C Rm E e_x_Mo_lotsAll_46 (fin1 h)
      · have h := ifn c6 h
        refine m_blk 20 [(0, vr 0 0), (1, vi b1), (2, vi b2), (3, vi b3), (4, vi b4)] [vr 0 0, vi b3] C f_x_Mo_lotsAll_18_2 rfl ?_
        refine m_getr C e_x_Mo_lotsAll_20 fg_Mo_45 rfl (by decide) rfl ?_
        refine m_blk 24 [(0, vr 0 0), (1, vi b1), (2, vi b2), (3, vi b3), (4, vi b4)] [vi b1, vr 22 0, vi b3] C f_x_Mo_lotsAll_23_1 rfl ?_
        have k7 : b1.toNat < 6 := by omega
        refine m_aald C b1.toNat e_x_Mo_lotsAll_24 rfl rfl rfl (by decide) (by decide) c1.1 c1.2 (mz _ _) ?_
        refine m_blk 26 [(0, vr 0 0), (1, vi b1), (2, vi b2), (3, vi b3), (4, vi b4)] [vr 0 0, vr 42 b1.toNat, vi b3] C f_x_Mo_lotsAll_25_1 rfl ?_
        refine m_getr C e_x_Mo_lotsAll_26 fg_Mo_39 rfl (by decide) rfl ?_
        refine m_blk 30 [(0, vr 0 0), (1, vi b1), (2, vi b2), (3, vi b3), (4, vi b4)] [vi b1, vr 20 0, vr 42 b1.toNat, vi b3] C f_x_Mo_lotsAll_29_1 rfl ?_
        have k8 : b1.toNat < 6 := by omega
        refine m_aald C b1.toNat e_x_Mo_lotsAll_30 rfl rfl rfl (by decide) (by decide) c1.1 c1.2 (mz _ _) ?_
        refine m_blk 32 [(0, vr 0 0), (1, vi b1), (2, vi b2), (3, vi b3), (4, vi b4)] [vi b2, vr 40 b1.toNat, vr 42 b1.toNat, vi b3] C f_x_Mo_lotsAll_31_1 rfl ?_
        refine m_iald C e_x_Mo_lotsAll_32 rfl k8 (by decide) c3.1 c3.2 (A 40 b1.toNat b2.toNat) rfl ?_
        refine m_blk 36 [(0, vr 0 0), (1, vi b1), (2, vi b2), (3, vi b3), (4, vi b4)] [vi ((A 40 b1.toNat b2.toNat) + b4), vr 42 b1.toNat, vi b3] C f_x_Mo_lotsAll_33_2 rfl ?_
        obtain ⟨c9, h⟩ := igd h
        refine m_iald C e_x_Mo_lotsAll_36 rfl k8 (by decide) c9.1 c9.2 (A 42 b1.toNat (((A 40 b1.toNat b2.toNat) + b4).toNat)) rfl ?_
        refine m_blk 5 [(4, vi (b4 + 1)), (3, vi (b3 + (A 42 b1.toNat (((A 40 b1.toNat b2.toNat) + b4).toNat)))), (0, vr 0 0), (1, vi b1), (2, vi b2)] [] C f_x_Mo_lotsAll_37_4 rfl ?_
        refine m_loc [(0, vr 0 0), (1, vi b1), (2, vi b2), (3, vi (b3 + (A 42 b1.toNat (((A 40 b1.toNat b2.toNat) + b4).toNat)))), (4, vi (b4 + 1))] ⟨rfl, rfl, rfl, rfl, rfl, trivial⟩ ?_
        exact ih A b1 b2 (b3 + (A 42 b1.toNat (((A 40 b1.toNat b2.toNat) + b4).toNat))) (b4 + 1)  h
  show JM g D ad w0 A 0 [(0, vr 0 0), (1, vi a0), (2, vi a1)] []
  unfold f_Mo_lotsAll at h
  refine m_blk 5 [(4, vi 0), (3, vi 0), (0, vr 0 0), (1, vi a0), (2, vi a1)] [] C f_x_Mo_lotsAll_0_4 rfl ?_
  refine m_loc [(0, vr 0 0), (1, vi a0), (2, vi a1), (3, vi 0), (4, vi 0)] ⟨rfl, rfl, rfl, rfl, rfl, trivial⟩ ?_
  exact hd_5 _ A a0 a1 0 0  h

def f_Mo_bitsOf_6 (bst : mA → Int → Int → Option (Int × mA)) : Nat → mA → Int → Int → Int → Int → Option (Int × mA)
  | 0, _, _, _, _, _ => none
  | n + 1, A, b1, b3, b4, b5 => (if g32 b5 then if g32 b3 then (if b3 ≤ b5 then (some (b4, A)) else (Option.bind (bst A b1 b5) (fun q4 => (if (0 ≤ b1 ∧ b1 < ((6 : Nat) : Int)) then (if (0 ≤ b5 ∧ b5 < ((16 : Nat) : Int)) then (f_Mo_bitsOf_6 bst n q4.2 b1 b3 (b4 + q4.1) (q4.2 37 b1.toNat b5.toNat)) else none) else none)))) else none else none)
def f_Mo_bitsOf (bst : mA → Int → Int → Option (Int × mA)) (A : mA) (a0 : Int) (a1 : Int) (a2 : Int) : Option (Int × mA) := (f_Mo_bitsOf_6 bst 20 A a0 a2 0 a1)
theorem f_x_Mo_bitsOf_0_4 : mblkB b_Mo_bitsOf [(0, .iconst 0, vi 0), (1, .istore 4, vi 0), (3, .iload_n 2, vi 0), (4, .istore 5, vi 0)] = true := by decide +kernel
theorem f_x_Mo_bitsOf_6_2 : mblkB b_Mo_bitsOf [(6, .iload 5, vi 0), (8, .iload_n 3, vi 0)] = true := by decide +kernel
theorem e_x_Mo_bitsOf_9 : decode b_Mo_bitsOf 9 = .ok (.if_icmp .ge 29, 3) := by decide +kernel
theorem f_x_Mo_bitsOf_38_1 : mblkB b_Mo_bitsOf [(38, .iload 4, vi 0)] = true := by decide +kernel
theorem e_x_Mo_bitsOf_40 : decode b_Mo_bitsOf 40 = .ok (.ireturn, 1) := by decide +kernel
theorem f_x_Mo_bitsOf_12_4 : mblkB b_Mo_bitsOf [(12, .iload 4, vi 0), (14, .aload_n 0, vi 0), (15, .iload_n 1, vi 0), (16, .iload 5, vi 0)] = true := by decide +kernel
theorem e_x_Mo_bitsOf_18 : decode b_Mo_bitsOf 18 = .ok (.invokevirtual 228, 3) := by decide +kernel
theorem f_x_Mo_bitsOf_21_3 : mblkB b_Mo_bitsOf [(21, .iadd, vi 0), (22, .istore 4, vi 0), (24, .aload_n 0, vi 0)] = true := by decide +kernel
theorem e_x_Mo_bitsOf_25 : decode b_Mo_bitsOf 25 = .ok (.getfield 30, 3) := by decide +kernel
theorem f_x_Mo_bitsOf_28_1 : mblkB b_Mo_bitsOf [(28, .iload_n 1, vi 0)] = true := by decide +kernel
theorem e_x_Mo_bitsOf_29 : decode b_Mo_bitsOf 29 = .ok (.aaload, 1) := by decide +kernel
theorem f_x_Mo_bitsOf_30_1 : mblkB b_Mo_bitsOf [(30, .iload 5, vi 0)] = true := by decide +kernel
theorem e_x_Mo_bitsOf_32 : decode b_Mo_bitsOf 32 = .ok (.iaload, 1) := by decide +kernel
theorem f_x_Mo_bitsOf_33_2 : mblkB b_Mo_bitsOf [(33, .istore 5, vi 0), (35, .goto (-29), vi 6)] = true := by decide +kernel
set_option maxHeartbeats 4000000 in
set_option maxRecDepth 20000 in
theorem x_Mo_bitsOf {bst : mA → Int → Int → Option (Int × mA)} {fr lo : Nat} (hbst : ∀ (l : Launch) (D : va_G) (B : Nat) (H0 : Heap) (ad : mAd) (A : mA) (a0 : Int) (a1 : Int) (hS : mStr D ad) (r9 : Int) (A9 : mA), bst A a0 a1 = some (r9, A9) → mMet l D B H0 ad y_Mo_bitsOfStep b_Mo_bitsOfStep 3 (some .int) fr lo [vr 0 0, vi a0, vi a1] A (fun v A' => v = some (vi r9) ∧ A' = A9)) : ∀ (l : Launch) (D : va_G) (B : Nat) (H0 : Heap) (ad : mAd) (A : mA) (a0 : Int) (a1 : Int) (a2 : Int) (hS : mStr D ad) (r9 : Int) (A9 : mA), f_Mo_bitsOf bst A a0 a1 a2 = some (r9, A9) → mMet l D B H0 ad y_Mo_bitsOf b_Mo_bitsOf 6 (some .int) (fr + 2) (lo + 60) [vr 0 0, vi a0, vi a1, vi a2] A (fun v A' => v = some (vi r9) ∧ A' = A9) := by
  intro l D B H0 ad A a0 a1 a2  hS r9 A9 h
  refine m_met (by decide) rfl (fun g w0 C Rm Y E => ?_)
  have hd_6 : ∀ (n : Nat) (A : mA) (b1 : Int) (b3 : Int) (b4 : Int) (b5 : Int) , f_Mo_bitsOf_6 bst n A b1 b3 b4 b5 = some (r9, A9) → JM g D ad w0 A 6 [(0, vr 0 0), (1, vi b1), (3, vi b3), (4, vi b4), (5, vi b5)] [] := by
    intro n
    induction n with
    | zero => intro A b1 b3 b4 b5  h; cases h
    | succ n ih =>
      intro A b1 b3 b4 b5  h
      unfold f_Mo_bitsOf_6 at h
      refine m_blk 9 [(0, vr 0 0), (1, vi b1), (3, vi b3), (4, vi b4), (5, vi b5)] [vi b3, vi b5] C f_x_Mo_bitsOf_6_2 rfl ?_
      obtain ⟨c1, h⟩ := igd h
      obtain ⟨c2, h⟩ := igd h
      refine m_icmp_ge (tgt := 38) C e_x_Mo_bitsOf_9 (by decide) c1 c2 (fun c3 => ?_) (fun c3 => ?_)
      · have h := ifp c3 h
        refine m_blk 40 [(0, vr 0 0), (1, vi b1), (3, vi b3), (4, vi b4), (5, vi b5)] [vi b4] C f_x_Mo_bitsOf_38_1 rfl ?_
        exact m_iret C Rm E e_x_Mo_bitsOf_40 (fin1 h)
      · have h := ifn c3 h
        refine m_blk 18 [(0, vr 0 0), (1, vi b1), (3, vi b3), (4, vi b4), (5, vi b5)] [vi b5, vi b1, vr 0 0, vi b4] C f_x_Mo_bitsOf_12_4 rfl ?_
        obtain ⟨q4, e5, h⟩ := obd h
        refine m_callV C Rm Y [vi b1, vi b5] [vi b4] (hbst l D B H0 ad _ b1 b5 hS _ _ e5) cl_Mo_228 rfl (by decide) rfl rfl e_x_Mo_bitsOf_18 rfl rfl rfl ⟨by show _ ≤ ((fr + 2) : Nat); omega, by show _ ≤ ((lo + 60) : Nat); omega⟩ ?_
        rintro _ _ ⟨rfl, rfl⟩
        show JM g D ad w0 q4.2 21 [(0, vr 0 0), (1, vi b1), (3, vi b3), (4, vi b4), (5, vi b5)] [vi q4.1, vi b4]
        refine m_blk 25 [(4, vi (b4 + q4.1)), (0, vr 0 0), (1, vi b1), (3, vi b3), (5, vi b5)] [vr 0 0] C f_x_Mo_bitsOf_21_3 rfl ?_
        refine m_getr C e_x_Mo_bitsOf_25 fg_Mo_30 rfl (by decide) rfl ?_
        refine m_blk 29 [(4, vi (b4 + q4.1)), (0, vr 0 0), (1, vi b1), (3, vi b3), (5, vi b5)] [vi b1, vr 17 0] C f_x_Mo_bitsOf_28_1 rfl ?_
        obtain ⟨c6, h⟩ := igd h
        have k7 : b1.toNat < 6 := by omega
        refine m_aald C b1.toNat e_x_Mo_bitsOf_29 rfl rfl rfl (by decide) (by decide) c6.1 c6.2 (mz _ _) ?_
        refine m_blk 32 [(4, vi (b4 + q4.1)), (0, vr 0 0), (1, vi b1), (3, vi b3), (5, vi b5)] [vi b5, vr 37 b1.toNat] C f_x_Mo_bitsOf_30_1 rfl ?_
        obtain ⟨c8, h⟩ := igd h
        refine m_iald C e_x_Mo_bitsOf_32 rfl k7 (by decide) c8.1 c8.2 (q4.2 37 b1.toNat b5.toNat) rfl ?_
        refine m_blk 6 [(5, vi (q4.2 37 b1.toNat b5.toNat)), (4, vi (b4 + q4.1)), (0, vr 0 0), (1, vi b1), (3, vi b3)] [] C f_x_Mo_bitsOf_33_2 rfl ?_
        refine m_loc [(0, vr 0 0), (1, vi b1), (3, vi b3), (4, vi (b4 + q4.1)), (5, vi (q4.2 37 b1.toNat b5.toNat))] ⟨rfl, rfl, rfl, rfl, rfl, trivial⟩ ?_
        exact ih q4.2 b1 b3 (b4 + q4.1) (q4.2 37 b1.toNat b5.toNat)  h
  show JM g D ad w0 A 0 [(0, vr 0 0), (1, vi a0), (2, vi a1), (3, vi a2)] []
  unfold f_Mo_bitsOf at h
  refine m_blk 6 [(5, vi a1), (4, vi 0), (0, vr 0 0), (1, vi a0), (2, vi a1), (3, vi a2)] [] C f_x_Mo_bitsOf_0_4 rfl ?_
  refine m_loc [(0, vr 0 0), (1, vi a0), (3, vi a2), (4, vi 0), (5, vi a1)] ⟨rfl, rfl, rfl, rfl, rfl, trivial⟩ ?_
  exact hd_6 _ A a0 a2 0 a1  h

def f_Mo_bitsOfStep (bst : mA → Int → Int → Option (Int × mA)) (A : mA) (a0 : Int) (a1 : Int) : Option (Int × mA) := (if (0 ≤ a0 ∧ a0 < ((6 : Nat) : Int)) then (if (0 ≤ a1 ∧ a1 < ((16 : Nat) : Int)) then (if g32 (A 34 a0.toNat a1.toNat) then (if (A 34 a0.toNat a1.toNat) = 0 then (Option.bind (f_Mo_lotsAll A a0 a1) (fun q6 => (Option.bind (f_JI_ntz q6.2 q6.1) (fun q8 => (some (q8.1, q8.2)))))) else if (A 34 a0.toNat a1.toNat) = 1 then (some (0, A)) else if (A 34 a0.toNat a1.toNat) = 2 then (some (0, A)) else if (A 34 a0.toNat a1.toNat) = 3 then (Option.bind (f_Mo_bitsOf bst A a0 (a1 + 1) (A 38 a0.toNat a1.toNat)) (fun q14 => (Option.bind (f_Mo_bitsOf bst q14.2 a0 (q14.2 38 a0.toNat a1.toNat) (q14.2 37 a0.toNat a1.toNat)) (fun q18 => (if g32 q14.1 then (if g32 q18.1 then (some ((max q14.1 q18.1), q18.2)) else none) else none))))) else if (A 34 a0.toNat a1.toNat) = 4 then (Option.bind (f_Mo_bitsOf bst A a0 (a1 + 1) (A 37 a0.toNat a1.toNat)) (fun q26 => (some (((A 36 a0.toNat a1.toNat) * q26.1), q26.2)))) else if (A 34 a0.toNat a1.toNat) = 5 then (if (0 ≤ (A 36 a0.toNat a1.toNat) ∧ (A 36 a0.toNat a1.toNat) < ((6 : Nat) : Int)) then (some ((A 6 0 ((A 36 a0.toNat a1.toNat).toNat)), A)) else none) else (some (0, A))) else none) else none) else none)
theorem f_x_Mo_bitsOfStep_0_1 : mblkB b_Mo_bitsOfStep [(0, .aload_n 0, vi 0)] = true := by decide +kernel
theorem e_x_Mo_bitsOfStep_1 : decode b_Mo_bitsOfStep 1 = .ok (.getfield 21, 3) := by decide +kernel
theorem f_x_Mo_bitsOfStep_4_1 : mblkB b_Mo_bitsOfStep [(4, .iload_n 1, vi 0)] = true := by decide +kernel
theorem e_x_Mo_bitsOfStep_5 : decode b_Mo_bitsOfStep 5 = .ok (.aaload, 1) := by decide +kernel
theorem f_x_Mo_bitsOfStep_6_1 : mblkB b_Mo_bitsOfStep [(6, .iload_n 2, vi 0)] = true := by decide +kernel
theorem e_x_Mo_bitsOfStep_7 : decode b_Mo_bitsOfStep 7 = .ok (.iaload, 1) := by decide +kernel
theorem e_x_Mo_bitsOfStep_8 : decode b_Mo_bitsOfStep 8 = .ok (.tableswitch 131 0 5 #[40, 131, 131, 50, 91, 117], 40) := by decide +kernel
theorem f_x_Mo_bitsOfStep_48_3 : mblkB b_Mo_bitsOfStep [(48, .aload_n 0, vi 0), (49, .iload_n 1, vi 0), (50, .iload_n 2, vi 0)] = true := by decide +kernel
theorem e_x_Mo_bitsOfStep_51 : decode b_Mo_bitsOfStep 51 = .ok (.invokevirtual 232, 3) := by decide +kernel
theorem e_x_Mo_bitsOfStep_54 : decode b_Mo_bitsOfStep 54 = .ok (.invokestatic 235, 3) := by decide +kernel
theorem e_x_Mo_bitsOfStep_57 : decode b_Mo_bitsOfStep 57 = .ok (.ireturn, 1) := by decide +kernel
theorem f_x_Mo_bitsOfStep_139_1 : mblkB b_Mo_bitsOfStep [(139, .iconst 0, vi 0)] = true := by decide +kernel
theorem e_x_Mo_bitsOfStep_140 : decode b_Mo_bitsOfStep 140 = .ok (.ireturn, 1) := by decide +kernel
theorem f_x_Mo_bitsOfStep_58_6 : mblkB b_Mo_bitsOfStep [(58, .aload_n 0, vi 0), (59, .iload_n 1, vi 0), (60, .iload_n 2, vi 0), (61, .iconst 1, vi 1), (62, .iadd, vi 0), (63, .aload_n 0, vi 0)] = true := by decide +kernel
theorem e_x_Mo_bitsOfStep_64 : decode b_Mo_bitsOfStep 64 = .ok (.getfield 33, 3) := by decide +kernel
theorem f_x_Mo_bitsOfStep_67_1 : mblkB b_Mo_bitsOfStep [(67, .iload_n 1, vi 0)] = true := by decide +kernel
theorem e_x_Mo_bitsOfStep_68 : decode b_Mo_bitsOfStep 68 = .ok (.aaload, 1) := by decide +kernel
theorem f_x_Mo_bitsOfStep_69_1 : mblkB b_Mo_bitsOfStep [(69, .iload_n 2, vi 0)] = true := by decide +kernel
theorem e_x_Mo_bitsOfStep_70 : decode b_Mo_bitsOfStep 70 = .ok (.iaload, 1) := by decide +kernel
theorem e_x_Mo_bitsOfStep_71 : decode b_Mo_bitsOfStep 71 = .ok (.invokevirtual 240, 3) := by decide +kernel
theorem f_x_Mo_bitsOfStep_74_3 : mblkB b_Mo_bitsOfStep [(74, .aload_n 0, vi 0), (75, .iload_n 1, vi 0), (76, .aload_n 0, vi 0)] = true := by decide +kernel
theorem e_x_Mo_bitsOfStep_77 : decode b_Mo_bitsOfStep 77 = .ok (.getfield 33, 3) := by decide +kernel
theorem f_x_Mo_bitsOfStep_80_1 : mblkB b_Mo_bitsOfStep [(80, .iload_n 1, vi 0)] = true := by decide +kernel
theorem e_x_Mo_bitsOfStep_81 : decode b_Mo_bitsOfStep 81 = .ok (.aaload, 1) := by decide +kernel
theorem f_x_Mo_bitsOfStep_82_1 : mblkB b_Mo_bitsOfStep [(82, .iload_n 2, vi 0)] = true := by decide +kernel
theorem e_x_Mo_bitsOfStep_83 : decode b_Mo_bitsOfStep 83 = .ok (.iaload, 1) := by decide +kernel
theorem f_x_Mo_bitsOfStep_84_1 : mblkB b_Mo_bitsOfStep [(84, .aload_n 0, vi 0)] = true := by decide +kernel
theorem e_x_Mo_bitsOfStep_85 : decode b_Mo_bitsOfStep 85 = .ok (.getfield 30, 3) := by decide +kernel
theorem f_x_Mo_bitsOfStep_88_1 : mblkB b_Mo_bitsOfStep [(88, .iload_n 1, vi 0)] = true := by decide +kernel
theorem e_x_Mo_bitsOfStep_89 : decode b_Mo_bitsOfStep 89 = .ok (.aaload, 1) := by decide +kernel
theorem f_x_Mo_bitsOfStep_90_1 : mblkB b_Mo_bitsOfStep [(90, .iload_n 2, vi 0)] = true := by decide +kernel
theorem e_x_Mo_bitsOfStep_91 : decode b_Mo_bitsOfStep 91 = .ok (.iaload, 1) := by decide +kernel
theorem e_x_Mo_bitsOfStep_92 : decode b_Mo_bitsOfStep 92 = .ok (.invokevirtual 240, 3) := by decide +kernel
theorem e_x_Mo_bitsOfStep_95 : decode b_Mo_bitsOfStep 95 = .ok (.invokestatic 243, 3) := by decide +kernel
theorem e_x_Mo_bitsOfStep_98 : decode b_Mo_bitsOfStep 98 = .ok (.ireturn, 1) := by decide +kernel
theorem f_x_Mo_bitsOfStep_99_1 : mblkB b_Mo_bitsOfStep [(99, .aload_n 0, vi 0)] = true := by decide +kernel
theorem e_x_Mo_bitsOfStep_100 : decode b_Mo_bitsOfStep 100 = .ok (.getfield 27, 3) := by decide +kernel
theorem f_x_Mo_bitsOfStep_103_1 : mblkB b_Mo_bitsOfStep [(103, .iload_n 1, vi 0)] = true := by decide +kernel
theorem e_x_Mo_bitsOfStep_104 : decode b_Mo_bitsOfStep 104 = .ok (.aaload, 1) := by decide +kernel
theorem f_x_Mo_bitsOfStep_105_1 : mblkB b_Mo_bitsOfStep [(105, .iload_n 2, vi 0)] = true := by decide +kernel
theorem e_x_Mo_bitsOfStep_106 : decode b_Mo_bitsOfStep 106 = .ok (.iaload, 1) := by decide +kernel
theorem f_x_Mo_bitsOfStep_107_6 : mblkB b_Mo_bitsOfStep [(107, .aload_n 0, vi 0), (108, .iload_n 1, vi 0), (109, .iload_n 2, vi 0), (110, .iconst 1, vi 1), (111, .iadd, vi 0), (112, .aload_n 0, vi 0)] = true := by decide +kernel
theorem e_x_Mo_bitsOfStep_113 : decode b_Mo_bitsOfStep 113 = .ok (.getfield 30, 3) := by decide +kernel
theorem f_x_Mo_bitsOfStep_116_1 : mblkB b_Mo_bitsOfStep [(116, .iload_n 1, vi 0)] = true := by decide +kernel
theorem e_x_Mo_bitsOfStep_117 : decode b_Mo_bitsOfStep 117 = .ok (.aaload, 1) := by decide +kernel
theorem f_x_Mo_bitsOfStep_118_1 : mblkB b_Mo_bitsOfStep [(118, .iload_n 2, vi 0)] = true := by decide +kernel
theorem e_x_Mo_bitsOfStep_119 : decode b_Mo_bitsOfStep 119 = .ok (.iaload, 1) := by decide +kernel
theorem e_x_Mo_bitsOfStep_120 : decode b_Mo_bitsOfStep 120 = .ok (.invokevirtual 240, 3) := by decide +kernel
theorem f_x_Mo_bitsOfStep_123_1 : mblkB b_Mo_bitsOfStep [(123, .imul, vi 0)] = true := by decide +kernel
theorem e_x_Mo_bitsOfStep_124 : decode b_Mo_bitsOfStep 124 = .ok (.ireturn, 1) := by decide +kernel
theorem f_x_Mo_bitsOfStep_125_1 : mblkB b_Mo_bitsOfStep [(125, .aload_n 0, vi 0)] = true := by decide +kernel
theorem e_x_Mo_bitsOfStep_126 : decode b_Mo_bitsOfStep 126 = .ok (.getfield 13, 3) := by decide +kernel
theorem f_x_Mo_bitsOfStep_129_1 : mblkB b_Mo_bitsOfStep [(129, .aload_n 0, vi 0)] = true := by decide +kernel
theorem e_x_Mo_bitsOfStep_130 : decode b_Mo_bitsOfStep 130 = .ok (.getfield 27, 3) := by decide +kernel
theorem f_x_Mo_bitsOfStep_133_1 : mblkB b_Mo_bitsOfStep [(133, .iload_n 1, vi 0)] = true := by decide +kernel
theorem e_x_Mo_bitsOfStep_134 : decode b_Mo_bitsOfStep 134 = .ok (.aaload, 1) := by decide +kernel
theorem f_x_Mo_bitsOfStep_135_1 : mblkB b_Mo_bitsOfStep [(135, .iload_n 2, vi 0)] = true := by decide +kernel
theorem e_x_Mo_bitsOfStep_136 : decode b_Mo_bitsOfStep 136 = .ok (.iaload, 1) := by decide +kernel
theorem e_x_Mo_bitsOfStep_137 : decode b_Mo_bitsOfStep 137 = .ok (.iaload, 1) := by decide +kernel
theorem e_x_Mo_bitsOfStep_138 : decode b_Mo_bitsOfStep 138 = .ok (.ireturn, 1) := by decide +kernel
set_option maxHeartbeats 4000000 in
set_option maxRecDepth 20000 in
theorem x_Mo_bitsOfStep {bst : mA → Int → Int → Option (Int × mA)} {fr lo : Nat} (hbst : ∀ (l : Launch) (D : va_G) (B : Nat) (H0 : Heap) (ad : mAd) (A : mA) (a0 : Int) (a1 : Int) (hS : mStr D ad) (r9 : Int) (A9 : mA), bst A a0 a1 = some (r9, A9) → mMet l D B H0 ad y_Mo_bitsOfStep b_Mo_bitsOfStep 3 (some .int) fr lo [vr 0 0, vi a0, vi a1] A (fun v A' => v = some (vi r9) ∧ A' = A9)) : ∀ (l : Launch) (D : va_G) (B : Nat) (H0 : Heap) (ad : mAd) (A : mA) (a0 : Int) (a1 : Int) (hS : mStr D ad) (r9 : Int) (A9 : mA), f_Mo_bitsOfStep bst A a0 a1 = some (r9, A9) → mMet l D B H0 ad y_Mo_bitsOfStep b_Mo_bitsOfStep 3 (some .int) (fr + 4) (lo + 120) [vr 0 0, vi a0, vi a1] A (fun v A' => v = some (vi r9) ∧ A' = A9) := by
  intro l D B H0 ad A a0 a1  hS r9 A9 h
  refine m_met (by decide) rfl (fun g w0 C Rm Y E => ?_)
  show JM g D ad w0 A 0 [(0, vr 0 0), (1, vi a0), (2, vi a1)] []
  unfold f_Mo_bitsOfStep at h
  refine m_blk 1 [(0, vr 0 0), (1, vi a0), (2, vi a1)] [vr 0 0] C f_x_Mo_bitsOfStep_0_1 rfl ?_
  refine m_getr C e_x_Mo_bitsOfStep_1 fg_Mo_21 rfl (by decide) rfl ?_
  refine m_blk 5 [(0, vr 0 0), (1, vi a0), (2, vi a1)] [vi a0, vr 14 0] C f_x_Mo_bitsOfStep_4_1 rfl ?_
  obtain ⟨c1, h⟩ := igd h
  have k2 : a0.toNat < 6 := by omega
  refine m_aald C a0.toNat e_x_Mo_bitsOfStep_5 rfl rfl rfl (by decide) (by decide) c1.1 c1.2 (mz _ _) ?_
  refine m_blk 7 [(0, vr 0 0), (1, vi a0), (2, vi a1)] [vi a1, vr 34 a0.toNat] C f_x_Mo_bitsOfStep_6_1 rfl ?_
  obtain ⟨c3, h⟩ := igd h
  refine m_iald C e_x_Mo_bitsOfStep_7 rfl k2 (by decide) c3.1 c3.2 (A 34 a0.toNat a1.toNat) rfl ?_
  obtain ⟨c4, h⟩ := igd h
  by_cases c5 : (A 34 a0.toNat a1.toNat) = 0
  · have h := ifp c5 h
    refine m_tabIn (tgt := 48) C e_x_Mo_bitsOfStep_8 c4 (by omega) (by omega) (by rw [c5]; rfl) (by decide) ?_
    refine m_blk 51 [(0, vr 0 0), (1, vi a0), (2, vi a1)] [vi a1, vi a0, vr 0 0] C f_x_Mo_bitsOfStep_48_3 rfl ?_
    obtain ⟨q6, e7, h⟩ := obd h
    refine m_callV C Rm Y [vi a0, vi a1] [] (x_Mo_lotsAll l D B H0 ad _ a0 a1 hS _ _ e7) cl_Mo_232 rfl (by decide) rfl rfl e_x_Mo_bitsOfStep_51 rfl rfl rfl ⟨by show _ ≤ ((fr + 4) : Nat); omega, by show _ ≤ ((lo + 120) : Nat); omega⟩ ?_
    rintro _ _ ⟨rfl, rfl⟩
    show JM g D ad w0 q6.2 54 [(0, vr 0 0), (1, vi a0), (2, vi a1)] [vi q6.1]
    obtain ⟨q8, e9, h⟩ := obd h
    refine m_callS C Rm Y [vi q6.1] [] (x_JI_ntz l D B H0 ad _ q6.1 hS _ _ e9) cl_Mo_235 e_x_Mo_bitsOfStep_54 rfl rfl rfl ⟨by show _ ≤ ((fr + 4) : Nat); omega, by show _ ≤ ((lo + 120) : Nat); omega⟩ ?_
    rintro _ _ ⟨rfl, rfl⟩
    show JM g D ad w0 q8.2 57 [(0, vr 0 0), (1, vi a0), (2, vi a1)] [vi q8.1]
    exact m_iret C Rm E e_x_Mo_bitsOfStep_57 (fin1 h)
  have h := ifn c5 h
  by_cases c10 : (A 34 a0.toNat a1.toNat) = 1
  · have h := ifp c10 h
    refine m_tabIn (tgt := 139) C e_x_Mo_bitsOfStep_8 c4 (by omega) (by omega) (by rw [c10]; rfl) (by decide) ?_
    refine m_blk 140 [(0, vr 0 0), (1, vi a0), (2, vi a1)] [vi 0] C f_x_Mo_bitsOfStep_139_1 rfl ?_
    exact m_iret C Rm E e_x_Mo_bitsOfStep_140 (fin1 h)
  have h := ifn c10 h
  by_cases c11 : (A 34 a0.toNat a1.toNat) = 2
  · have h := ifp c11 h
    refine m_tabIn (tgt := 139) C e_x_Mo_bitsOfStep_8 c4 (by omega) (by omega) (by rw [c11]; rfl) (by decide) ?_
    refine m_blk 140 [(0, vr 0 0), (1, vi a0), (2, vi a1)] [vi 0] C f_x_Mo_bitsOfStep_139_1 rfl ?_
    exact m_iret C Rm E e_x_Mo_bitsOfStep_140 (fin1 h)
  have h := ifn c11 h
  by_cases c12 : (A 34 a0.toNat a1.toNat) = 3
  · have h := ifp c12 h
    refine m_tabIn (tgt := 58) C e_x_Mo_bitsOfStep_8 c4 (by omega) (by omega) (by rw [c12]; rfl) (by decide) ?_
    refine m_blk 64 [(0, vr 0 0), (1, vi a0), (2, vi a1)] [vr 0 0, vi (a1 + 1), vi a0, vr 0 0] C f_x_Mo_bitsOfStep_58_6 rfl ?_
    refine m_getr C e_x_Mo_bitsOfStep_64 fg_Mo_33 rfl (by decide) rfl ?_
    refine m_blk 68 [(0, vr 0 0), (1, vi a0), (2, vi a1)] [vi a0, vr 18 0, vi (a1 + 1), vi a0, vr 0 0] C f_x_Mo_bitsOfStep_67_1 rfl ?_
    have k13 : a0.toNat < 6 := by omega
    refine m_aald C a0.toNat e_x_Mo_bitsOfStep_68 rfl rfl rfl (by decide) (by decide) c1.1 c1.2 (mz _ _) ?_
    refine m_blk 70 [(0, vr 0 0), (1, vi a0), (2, vi a1)] [vi a1, vr 38 a0.toNat, vi (a1 + 1), vi a0, vr 0 0] C f_x_Mo_bitsOfStep_69_1 rfl ?_
    refine m_iald C e_x_Mo_bitsOfStep_70 rfl k13 (by decide) c3.1 c3.2 (A 38 a0.toNat a1.toNat) rfl ?_
    obtain ⟨q14, e15, h⟩ := obd h
    refine m_callV C Rm Y [vi a0, vi (a1 + 1), vi (A 38 a0.toNat a1.toNat)] [] (x_Mo_bitsOf hbst l D B H0 ad _ a0 (a1 + 1) (A 38 a0.toNat a1.toNat) hS _ _ e15) cl_Mo_240 rfl (by decide) rfl rfl e_x_Mo_bitsOfStep_71 rfl rfl rfl ⟨by show _ ≤ ((fr + 4) : Nat); omega, by show _ ≤ ((lo + 120) : Nat); omega⟩ ?_
    rintro _ _ ⟨rfl, rfl⟩
    show JM g D ad w0 q14.2 74 [(0, vr 0 0), (1, vi a0), (2, vi a1)] [vi q14.1]
    refine m_blk 77 [(0, vr 0 0), (1, vi a0), (2, vi a1)] [vr 0 0, vi a0, vr 0 0, vi q14.1] C f_x_Mo_bitsOfStep_74_3 rfl ?_
    refine m_getr C e_x_Mo_bitsOfStep_77 fg_Mo_33 rfl (by decide) rfl ?_
    refine m_blk 81 [(0, vr 0 0), (1, vi a0), (2, vi a1)] [vi a0, vr 18 0, vi a0, vr 0 0, vi q14.1] C f_x_Mo_bitsOfStep_80_1 rfl ?_
    have k16 : a0.toNat < 6 := by omega
    refine m_aald C a0.toNat e_x_Mo_bitsOfStep_81 rfl rfl rfl (by decide) (by decide) c1.1 c1.2 (mz _ _) ?_
    refine m_blk 83 [(0, vr 0 0), (1, vi a0), (2, vi a1)] [vi a1, vr 38 a0.toNat, vi a0, vr 0 0, vi q14.1] C f_x_Mo_bitsOfStep_82_1 rfl ?_
    refine m_iald C e_x_Mo_bitsOfStep_83 rfl k16 (by decide) c3.1 c3.2 (q14.2 38 a0.toNat a1.toNat) rfl ?_
    refine m_blk 85 [(0, vr 0 0), (1, vi a0), (2, vi a1)] [vr 0 0, vi (q14.2 38 a0.toNat a1.toNat), vi a0, vr 0 0, vi q14.1] C f_x_Mo_bitsOfStep_84_1 rfl ?_
    refine m_getr C e_x_Mo_bitsOfStep_85 fg_Mo_30 rfl (by decide) rfl ?_
    refine m_blk 89 [(0, vr 0 0), (1, vi a0), (2, vi a1)] [vi a0, vr 17 0, vi (q14.2 38 a0.toNat a1.toNat), vi a0, vr 0 0, vi q14.1] C f_x_Mo_bitsOfStep_88_1 rfl ?_
    have k17 : a0.toNat < 6 := by omega
    refine m_aald C a0.toNat e_x_Mo_bitsOfStep_89 rfl rfl rfl (by decide) (by decide) c1.1 c1.2 (mz _ _) ?_
    refine m_blk 91 [(0, vr 0 0), (1, vi a0), (2, vi a1)] [vi a1, vr 37 a0.toNat, vi (q14.2 38 a0.toNat a1.toNat), vi a0, vr 0 0, vi q14.1] C f_x_Mo_bitsOfStep_90_1 rfl ?_
    refine m_iald C e_x_Mo_bitsOfStep_91 rfl k17 (by decide) c3.1 c3.2 (q14.2 37 a0.toNat a1.toNat) rfl ?_
    obtain ⟨q18, e19, h⟩ := obd h
    refine m_callV C Rm Y [vi a0, vi (q14.2 38 a0.toNat a1.toNat), vi (q14.2 37 a0.toNat a1.toNat)] [vi q14.1] (x_Mo_bitsOf hbst l D B H0 ad _ a0 (q14.2 38 a0.toNat a1.toNat) (q14.2 37 a0.toNat a1.toNat) hS _ _ e19) cl_Mo_240 rfl (by decide) rfl rfl e_x_Mo_bitsOfStep_92 rfl rfl rfl ⟨by show _ ≤ ((fr + 4) : Nat); omega, by show _ ≤ ((lo + 120) : Nat); omega⟩ ?_
    rintro _ _ ⟨rfl, rfl⟩
    show JM g D ad w0 q18.2 95 [(0, vr 0 0), (1, vi a0), (2, vi a1)] [vi q18.1, vi q14.1]
    obtain ⟨c20, h⟩ := igd h
    obtain ⟨c21, h⟩ := igd h
    refine m_mmax C Rm cl_Mo_243 e_x_Mo_bitsOfStep_95 (by show 1 ≤ ((fr + 4) : Nat); omega) (by show 0 + 13 ≤ ((lo + 120) : Nat); omega) c20 c21 (fun z22 hz22 => ?_)
    obtain rfl : z22 = max q14.1 q18.1 := by omega
    exact m_iret C Rm E e_x_Mo_bitsOfStep_98 (fin1 h)
  have h := ifn c12 h
  by_cases c23 : (A 34 a0.toNat a1.toNat) = 4
  · have h := ifp c23 h
    refine m_tabIn (tgt := 99) C e_x_Mo_bitsOfStep_8 c4 (by omega) (by omega) (by rw [c23]; rfl) (by decide) ?_
    refine m_blk 100 [(0, vr 0 0), (1, vi a0), (2, vi a1)] [vr 0 0] C f_x_Mo_bitsOfStep_99_1 rfl ?_
    refine m_getr C e_x_Mo_bitsOfStep_100 fg_Mo_27 rfl (by decide) rfl ?_
    refine m_blk 104 [(0, vr 0 0), (1, vi a0), (2, vi a1)] [vi a0, vr 16 0] C f_x_Mo_bitsOfStep_103_1 rfl ?_
    have k24 : a0.toNat < 6 := by omega
    refine m_aald C a0.toNat e_x_Mo_bitsOfStep_104 rfl rfl rfl (by decide) (by decide) c1.1 c1.2 (mz _ _) ?_
    refine m_blk 106 [(0, vr 0 0), (1, vi a0), (2, vi a1)] [vi a1, vr 36 a0.toNat] C f_x_Mo_bitsOfStep_105_1 rfl ?_
    refine m_iald C e_x_Mo_bitsOfStep_106 rfl k24 (by decide) c3.1 c3.2 (A 36 a0.toNat a1.toNat) rfl ?_
    refine m_blk 113 [(0, vr 0 0), (1, vi a0), (2, vi a1)] [vr 0 0, vi (a1 + 1), vi a0, vr 0 0, vi (A 36 a0.toNat a1.toNat)] C f_x_Mo_bitsOfStep_107_6 rfl ?_
    refine m_getr C e_x_Mo_bitsOfStep_113 fg_Mo_30 rfl (by decide) rfl ?_
    refine m_blk 117 [(0, vr 0 0), (1, vi a0), (2, vi a1)] [vi a0, vr 17 0, vi (a1 + 1), vi a0, vr 0 0, vi (A 36 a0.toNat a1.toNat)] C f_x_Mo_bitsOfStep_116_1 rfl ?_
    have k25 : a0.toNat < 6 := by omega
    refine m_aald C a0.toNat e_x_Mo_bitsOfStep_117 rfl rfl rfl (by decide) (by decide) c1.1 c1.2 (mz _ _) ?_
    refine m_blk 119 [(0, vr 0 0), (1, vi a0), (2, vi a1)] [vi a1, vr 37 a0.toNat, vi (a1 + 1), vi a0, vr 0 0, vi (A 36 a0.toNat a1.toNat)] C f_x_Mo_bitsOfStep_118_1 rfl ?_
    refine m_iald C e_x_Mo_bitsOfStep_119 rfl k25 (by decide) c3.1 c3.2 (A 37 a0.toNat a1.toNat) rfl ?_
    obtain ⟨q26, e27, h⟩ := obd h
    refine m_callV C Rm Y [vi a0, vi (a1 + 1), vi (A 37 a0.toNat a1.toNat)] [vi (A 36 a0.toNat a1.toNat)] (x_Mo_bitsOf hbst l D B H0 ad _ a0 (a1 + 1) (A 37 a0.toNat a1.toNat) hS _ _ e27) cl_Mo_240 rfl (by decide) rfl rfl e_x_Mo_bitsOfStep_120 rfl rfl rfl ⟨by show _ ≤ ((fr + 4) : Nat); omega, by show _ ≤ ((lo + 120) : Nat); omega⟩ ?_
    rintro _ _ ⟨rfl, rfl⟩
    show JM g D ad w0 q26.2 123 [(0, vr 0 0), (1, vi a0), (2, vi a1)] [vi q26.1, vi (A 36 a0.toNat a1.toNat)]
    refine m_blk 124 [(0, vr 0 0), (1, vi a0), (2, vi a1)] [vi ((A 36 a0.toNat a1.toNat) * q26.1)] C f_x_Mo_bitsOfStep_123_1 rfl ?_
    exact m_iret C Rm E e_x_Mo_bitsOfStep_124 (fin1 h)
  have h := ifn c23 h
  by_cases c28 : (A 34 a0.toNat a1.toNat) = 5
  · have h := ifp c28 h
    refine m_tabIn (tgt := 125) C e_x_Mo_bitsOfStep_8 c4 (by omega) (by omega) (by rw [c28]; rfl) (by decide) ?_
    refine m_blk 126 [(0, vr 0 0), (1, vi a0), (2, vi a1)] [vr 0 0] C f_x_Mo_bitsOfStep_125_1 rfl ?_
    refine m_getr C e_x_Mo_bitsOfStep_126 fg_Mo_13 rfl (by decide) rfl ?_
    refine m_blk 130 [(0, vr 0 0), (1, vi a0), (2, vi a1)] [vr 0 0, vr 6 0] C f_x_Mo_bitsOfStep_129_1 rfl ?_
    refine m_getr C e_x_Mo_bitsOfStep_130 fg_Mo_27 rfl (by decide) rfl ?_
    refine m_blk 134 [(0, vr 0 0), (1, vi a0), (2, vi a1)] [vi a0, vr 16 0, vr 6 0] C f_x_Mo_bitsOfStep_133_1 rfl ?_
    have k29 : a0.toNat < 6 := by omega
    refine m_aald C a0.toNat e_x_Mo_bitsOfStep_134 rfl rfl rfl (by decide) (by decide) c1.1 c1.2 (mz _ _) ?_
    refine m_blk 136 [(0, vr 0 0), (1, vi a0), (2, vi a1)] [vi a1, vr 36 a0.toNat, vr 6 0] C f_x_Mo_bitsOfStep_135_1 rfl ?_
    refine m_iald C e_x_Mo_bitsOfStep_136 rfl k29 (by decide) c3.1 c3.2 (A 36 a0.toNat a1.toNat) rfl ?_
    obtain ⟨c30, h⟩ := igd h
    refine m_iald C e_x_Mo_bitsOfStep_137 rfl (by decide) (by decide) c30.1 c30.2 (A 6 0 ((A 36 a0.toNat a1.toNat).toNat)) rfl ?_
    exact m_iret C Rm E e_x_Mo_bitsOfStep_138 (fin1 h)
  have h := ifn c28 h
  refine m_tabOut (tgt := 139) C e_x_Mo_bitsOfStep_8 c4 (by omega) (by decide) ?_
  refine m_blk 140 [(0, vr 0 0), (1, vi a0), (2, vi a1)] [vi 0] C f_x_Mo_bitsOfStep_139_1 rfl ?_
  exact m_iret C Rm E e_x_Mo_bitsOfStep_140 (fin1 h)

def f_Mo_bitsOfStepN : Nat → mA → Int → Int → Option (Int × mA)
  | 0, _, _, _ => none
  | n + 1, A, a0, a1 => f_Mo_bitsOfStep (f_Mo_bitsOfStepN n) A a0 a1
theorem x_Mo_bitsOfStepN : ∀ n : Nat, ∀ (l : Launch) (D : va_G) (B : Nat) (H0 : Heap) (ad : mAd) (A : mA) (a0 : Int) (a1 : Int) (hS : mStr D ad) (r9 : Int) (A9 : mA), f_Mo_bitsOfStepN n A a0 a1 = some (r9, A9) → mMet l D B H0 ad y_Mo_bitsOfStep b_Mo_bitsOfStep 3 (some .int) (4 * n) (120 * n) [vr 0 0, vi a0, vi a1] A (fun v A' => v = some (vi r9) ∧ A' = A9) := by
  intro n
  induction n with
  | zero => intro l D B H0 ad A a0 a1 hS r9 A9 h; cases h
  | succ n ih =>
    intro l D B H0 ad A a0 a1 hS r9 A9 h
    have k := x_Mo_bitsOfStep ih l D B H0 ad A a0 a1 hS r9 A9 h
    have e1 : 4 * (n + 1) = 4 * n + 4 := by omega
    have e2 : 120 * (n + 1) = 120 * n + 120 := by omega
    rw [e1, e2]
    exact k
def f_Mo_turnsOf_6 (tst : mA → Int → Int → Option (Int × mA)) : Nat → mA → Int → Int → Int → Int → Option (Int × mA)
  | 0, _, _, _, _, _ => none
  | n + 1, A, b1, b3, b4, b5 => (if g32 b5 then if g32 b3 then (if b3 ≤ b5 then (some (b4, A)) else (Option.bind (tst A b1 b5) (fun q4 => (if (0 ≤ b1 ∧ b1 < ((6 : Nat) : Int)) then (if (0 ≤ b5 ∧ b5 < ((16 : Nat) : Int)) then (f_Mo_turnsOf_6 tst n q4.2 b1 b3 (b4 + q4.1) (q4.2 37 b1.toNat b5.toNat)) else none) else none)))) else none else none)
def f_Mo_turnsOf (tst : mA → Int → Int → Option (Int × mA)) (A : mA) (a0 : Int) (a1 : Int) (a2 : Int) : Option (Int × mA) := (f_Mo_turnsOf_6 tst 20 A a0 a2 0 a1)
theorem f_x_Mo_turnsOf_0_4 : mblkB b_Mo_turnsOf [(0, .iconst 0, vi 0), (1, .istore 4, vi 0), (3, .iload_n 2, vi 0), (4, .istore 5, vi 0)] = true := by decide +kernel
theorem f_x_Mo_turnsOf_6_2 : mblkB b_Mo_turnsOf [(6, .iload 5, vi 0), (8, .iload_n 3, vi 0)] = true := by decide +kernel
theorem e_x_Mo_turnsOf_9 : decode b_Mo_turnsOf 9 = .ok (.if_icmp .ge 29, 3) := by decide +kernel
theorem f_x_Mo_turnsOf_38_1 : mblkB b_Mo_turnsOf [(38, .iload 4, vi 0)] = true := by decide +kernel
theorem e_x_Mo_turnsOf_40 : decode b_Mo_turnsOf 40 = .ok (.ireturn, 1) := by decide +kernel
theorem f_x_Mo_turnsOf_12_4 : mblkB b_Mo_turnsOf [(12, .iload 4, vi 0), (14, .aload_n 0, vi 0), (15, .iload_n 1, vi 0), (16, .iload 5, vi 0)] = true := by decide +kernel
theorem e_x_Mo_turnsOf_18 : decode b_Mo_turnsOf 18 = .ok (.invokevirtual 248, 3) := by decide +kernel
theorem f_x_Mo_turnsOf_21_3 : mblkB b_Mo_turnsOf [(21, .iadd, vi 0), (22, .istore 4, vi 0), (24, .aload_n 0, vi 0)] = true := by decide +kernel
theorem e_x_Mo_turnsOf_25 : decode b_Mo_turnsOf 25 = .ok (.getfield 30, 3) := by decide +kernel
theorem f_x_Mo_turnsOf_28_1 : mblkB b_Mo_turnsOf [(28, .iload_n 1, vi 0)] = true := by decide +kernel
theorem e_x_Mo_turnsOf_29 : decode b_Mo_turnsOf 29 = .ok (.aaload, 1) := by decide +kernel
theorem f_x_Mo_turnsOf_30_1 : mblkB b_Mo_turnsOf [(30, .iload 5, vi 0)] = true := by decide +kernel
theorem e_x_Mo_turnsOf_32 : decode b_Mo_turnsOf 32 = .ok (.iaload, 1) := by decide +kernel
theorem f_x_Mo_turnsOf_33_2 : mblkB b_Mo_turnsOf [(33, .istore 5, vi 0), (35, .goto (-29), vi 6)] = true := by decide +kernel
set_option maxHeartbeats 4000000 in
set_option maxRecDepth 20000 in
theorem x_Mo_turnsOf {tst : mA → Int → Int → Option (Int × mA)} {fr lo : Nat} (htst : ∀ (l : Launch) (D : va_G) (B : Nat) (H0 : Heap) (ad : mAd) (A : mA) (a0 : Int) (a1 : Int) (hS : mStr D ad) (r9 : Int) (A9 : mA), tst A a0 a1 = some (r9, A9) → mMet l D B H0 ad y_Mo_turnsOfStep b_Mo_turnsOfStep 3 (some .int) fr lo [vr 0 0, vi a0, vi a1] A (fun v A' => v = some (vi r9) ∧ A' = A9)) : ∀ (l : Launch) (D : va_G) (B : Nat) (H0 : Heap) (ad : mAd) (A : mA) (a0 : Int) (a1 : Int) (a2 : Int) (hS : mStr D ad) (r9 : Int) (A9 : mA), f_Mo_turnsOf tst A a0 a1 a2 = some (r9, A9) → mMet l D B H0 ad y_Mo_turnsOf b_Mo_turnsOf 6 (some .int) (fr + 2) (lo + 60) [vr 0 0, vi a0, vi a1, vi a2] A (fun v A' => v = some (vi r9) ∧ A' = A9) := by
  intro l D B H0 ad A a0 a1 a2  hS r9 A9 h
  refine m_met (by decide) rfl (fun g w0 C Rm Y E => ?_)
  have hd_6 : ∀ (n : Nat) (A : mA) (b1 : Int) (b3 : Int) (b4 : Int) (b5 : Int) , f_Mo_turnsOf_6 tst n A b1 b3 b4 b5 = some (r9, A9) → JM g D ad w0 A 6 [(0, vr 0 0), (1, vi b1), (3, vi b3), (4, vi b4), (5, vi b5)] [] := by
    intro n
    induction n with
    | zero => intro A b1 b3 b4 b5  h; cases h
    | succ n ih =>
      intro A b1 b3 b4 b5  h
      unfold f_Mo_turnsOf_6 at h
      refine m_blk 9 [(0, vr 0 0), (1, vi b1), (3, vi b3), (4, vi b4), (5, vi b5)] [vi b3, vi b5] C f_x_Mo_turnsOf_6_2 rfl ?_
      obtain ⟨c1, h⟩ := igd h
      obtain ⟨c2, h⟩ := igd h
      refine m_icmp_ge (tgt := 38) C e_x_Mo_turnsOf_9 (by decide) c1 c2 (fun c3 => ?_) (fun c3 => ?_)
      · have h := ifp c3 h
        refine m_blk 40 [(0, vr 0 0), (1, vi b1), (3, vi b3), (4, vi b4), (5, vi b5)] [vi b4] C f_x_Mo_turnsOf_38_1 rfl ?_
        exact m_iret C Rm E e_x_Mo_turnsOf_40 (fin1 h)
      · have h := ifn c3 h
        refine m_blk 18 [(0, vr 0 0), (1, vi b1), (3, vi b3), (4, vi b4), (5, vi b5)] [vi b5, vi b1, vr 0 0, vi b4] C f_x_Mo_turnsOf_12_4 rfl ?_
        obtain ⟨q4, e5, h⟩ := obd h
        refine m_callV C Rm Y [vi b1, vi b5] [vi b4] (htst l D B H0 ad _ b1 b5 hS _ _ e5) cl_Mo_248 rfl (by decide) rfl rfl e_x_Mo_turnsOf_18 rfl rfl rfl ⟨by show _ ≤ ((fr + 2) : Nat); omega, by show _ ≤ ((lo + 60) : Nat); omega⟩ ?_
        rintro _ _ ⟨rfl, rfl⟩
        show JM g D ad w0 q4.2 21 [(0, vr 0 0), (1, vi b1), (3, vi b3), (4, vi b4), (5, vi b5)] [vi q4.1, vi b4]
        refine m_blk 25 [(4, vi (b4 + q4.1)), (0, vr 0 0), (1, vi b1), (3, vi b3), (5, vi b5)] [vr 0 0] C f_x_Mo_turnsOf_21_3 rfl ?_
        refine m_getr C e_x_Mo_turnsOf_25 fg_Mo_30 rfl (by decide) rfl ?_
        refine m_blk 29 [(4, vi (b4 + q4.1)), (0, vr 0 0), (1, vi b1), (3, vi b3), (5, vi b5)] [vi b1, vr 17 0] C f_x_Mo_turnsOf_28_1 rfl ?_
        obtain ⟨c6, h⟩ := igd h
        have k7 : b1.toNat < 6 := by omega
        refine m_aald C b1.toNat e_x_Mo_turnsOf_29 rfl rfl rfl (by decide) (by decide) c6.1 c6.2 (mz _ _) ?_
        refine m_blk 32 [(4, vi (b4 + q4.1)), (0, vr 0 0), (1, vi b1), (3, vi b3), (5, vi b5)] [vi b5, vr 37 b1.toNat] C f_x_Mo_turnsOf_30_1 rfl ?_
        obtain ⟨c8, h⟩ := igd h
        refine m_iald C e_x_Mo_turnsOf_32 rfl k7 (by decide) c8.1 c8.2 (q4.2 37 b1.toNat b5.toNat) rfl ?_
        refine m_blk 6 [(5, vi (q4.2 37 b1.toNat b5.toNat)), (4, vi (b4 + q4.1)), (0, vr 0 0), (1, vi b1), (3, vi b3)] [] C f_x_Mo_turnsOf_33_2 rfl ?_
        refine m_loc [(0, vr 0 0), (1, vi b1), (3, vi b3), (4, vi (b4 + q4.1)), (5, vi (q4.2 37 b1.toNat b5.toNat))] ⟨rfl, rfl, rfl, rfl, rfl, trivial⟩ ?_
        exact ih q4.2 b1 b3 (b4 + q4.1) (q4.2 37 b1.toNat b5.toNat)  h
  show JM g D ad w0 A 0 [(0, vr 0 0), (1, vi a0), (2, vi a1), (3, vi a2)] []
  unfold f_Mo_turnsOf at h
  refine m_blk 6 [(5, vi a1), (4, vi 0), (0, vr 0 0), (1, vi a0), (2, vi a1), (3, vi a2)] [] C f_x_Mo_turnsOf_0_4 rfl ?_
  refine m_loc [(0, vr 0 0), (1, vi a0), (3, vi a2), (4, vi 0), (5, vi a1)] ⟨rfl, rfl, rfl, rfl, rfl, trivial⟩ ?_
  exact hd_6 _ A a0 a2 0 a1  h

def f_Mo_turnsOfStep (tst : mA → Int → Int → Option (Int × mA)) (A : mA) (a0 : Int) (a1 : Int) : Option (Int × mA) := (if (0 ≤ a0 ∧ a0 < ((6 : Nat) : Int)) then (if (0 ≤ a1 ∧ a1 < ((16 : Nat) : Int)) then (if g32 (A 34 a0.toNat a1.toNat) then (if (A 34 a0.toNat a1.toNat) = 3 then (Option.bind (f_Mo_turnsOf tst A a0 (a1 + 1) (A 37 a0.toNat a1.toNat)) (fun q7 => (some ((1 + q7.1), q7.2)))) else if (A 34 a0.toNat a1.toNat) = 4 then (Option.bind (f_Mo_turnsOf tst A a0 (a1 + 1) (A 37 a0.toNat a1.toNat)) (fun q12 => (some ((1 + ((A 36 a0.toNat a1.toNat) * q12.1)), q12.2)))) else if (A 34 a0.toNat a1.toNat) = 5 then (if (0 ≤ (A 36 a0.toNat a1.toNat) ∧ (A 36 a0.toNat a1.toNat) < ((6 : Nat) : Int)) then (some ((1 + (A 7 0 ((A 36 a0.toNat a1.toNat).toNat))), A)) else none) else (some (1, A))) else none) else none) else none)
theorem f_x_Mo_turnsOfStep_0_1 : mblkB b_Mo_turnsOfStep [(0, .aload_n 0, vi 0)] = true := by decide +kernel
theorem e_x_Mo_turnsOfStep_1 : decode b_Mo_turnsOfStep 1 = .ok (.getfield 21, 3) := by decide +kernel
theorem f_x_Mo_turnsOfStep_4_1 : mblkB b_Mo_turnsOfStep [(4, .iload_n 1, vi 0)] = true := by decide +kernel
theorem e_x_Mo_turnsOfStep_5 : decode b_Mo_turnsOfStep 5 = .ok (.aaload, 1) := by decide +kernel
theorem f_x_Mo_turnsOfStep_6_1 : mblkB b_Mo_turnsOfStep [(6, .iload_n 2, vi 0)] = true := by decide +kernel
theorem e_x_Mo_turnsOfStep_7 : decode b_Mo_turnsOfStep 7 = .ok (.iaload, 1) := by decide +kernel
theorem e_x_Mo_turnsOfStep_8 : decode b_Mo_turnsOfStep 8 = .ok (.tableswitch 91 3 5 #[28, 47, 75], 28) := by decide +kernel
theorem f_x_Mo_turnsOfStep_36_7 : mblkB b_Mo_turnsOfStep [(36, .iconst 1, vi 1), (37, .aload_n 0, vi 0), (38, .iload_n 1, vi 0), (39, .iload_n 2, vi 0), (40, .iconst 1, vi 1), (41, .iadd, vi 0), (42, .aload_n 0, vi 0)] = true := by decide +kernel
theorem e_x_Mo_turnsOfStep_43 : decode b_Mo_turnsOfStep 43 = .ok (.getfield 30, 3) := by decide +kernel
theorem f_x_Mo_turnsOfStep_46_1 : mblkB b_Mo_turnsOfStep [(46, .iload_n 1, vi 0)] = true := by decide +kernel
theorem e_x_Mo_turnsOfStep_47 : decode b_Mo_turnsOfStep 47 = .ok (.aaload, 1) := by decide +kernel
theorem f_x_Mo_turnsOfStep_48_1 : mblkB b_Mo_turnsOfStep [(48, .iload_n 2, vi 0)] = true := by decide +kernel
theorem e_x_Mo_turnsOfStep_49 : decode b_Mo_turnsOfStep 49 = .ok (.iaload, 1) := by decide +kernel
theorem e_x_Mo_turnsOfStep_50 : decode b_Mo_turnsOfStep 50 = .ok (.invokevirtual 251, 3) := by decide +kernel
theorem f_x_Mo_turnsOfStep_53_1 : mblkB b_Mo_turnsOfStep [(53, .iadd, vi 0)] = true := by decide +kernel
theorem e_x_Mo_turnsOfStep_54 : decode b_Mo_turnsOfStep 54 = .ok (.ireturn, 1) := by decide +kernel
theorem f_x_Mo_turnsOfStep_55_2 : mblkB b_Mo_turnsOfStep [(55, .iconst 1, vi 1), (56, .aload_n 0, vi 0)] = true := by decide +kernel
theorem e_x_Mo_turnsOfStep_57 : decode b_Mo_turnsOfStep 57 = .ok (.getfield 27, 3) := by decide +kernel
theorem f_x_Mo_turnsOfStep_60_1 : mblkB b_Mo_turnsOfStep [(60, .iload_n 1, vi 0)] = true := by decide +kernel
theorem e_x_Mo_turnsOfStep_61 : decode b_Mo_turnsOfStep 61 = .ok (.aaload, 1) := by decide +kernel
theorem f_x_Mo_turnsOfStep_62_1 : mblkB b_Mo_turnsOfStep [(62, .iload_n 2, vi 0)] = true := by decide +kernel
theorem e_x_Mo_turnsOfStep_63 : decode b_Mo_turnsOfStep 63 = .ok (.iaload, 1) := by decide +kernel
theorem f_x_Mo_turnsOfStep_64_6 : mblkB b_Mo_turnsOfStep [(64, .aload_n 0, vi 0), (65, .iload_n 1, vi 0), (66, .iload_n 2, vi 0), (67, .iconst 1, vi 1), (68, .iadd, vi 0), (69, .aload_n 0, vi 0)] = true := by decide +kernel
theorem e_x_Mo_turnsOfStep_70 : decode b_Mo_turnsOfStep 70 = .ok (.getfield 30, 3) := by decide +kernel
theorem f_x_Mo_turnsOfStep_73_1 : mblkB b_Mo_turnsOfStep [(73, .iload_n 1, vi 0)] = true := by decide +kernel
theorem e_x_Mo_turnsOfStep_74 : decode b_Mo_turnsOfStep 74 = .ok (.aaload, 1) := by decide +kernel
theorem f_x_Mo_turnsOfStep_75_1 : mblkB b_Mo_turnsOfStep [(75, .iload_n 2, vi 0)] = true := by decide +kernel
theorem e_x_Mo_turnsOfStep_76 : decode b_Mo_turnsOfStep 76 = .ok (.iaload, 1) := by decide +kernel
theorem e_x_Mo_turnsOfStep_77 : decode b_Mo_turnsOfStep 77 = .ok (.invokevirtual 251, 3) := by decide +kernel
theorem f_x_Mo_turnsOfStep_80_2 : mblkB b_Mo_turnsOfStep [(80, .imul, vi 0), (81, .iadd, vi 0)] = true := by decide +kernel
theorem e_x_Mo_turnsOfStep_82 : decode b_Mo_turnsOfStep 82 = .ok (.ireturn, 1) := by decide +kernel
theorem f_x_Mo_turnsOfStep_83_2 : mblkB b_Mo_turnsOfStep [(83, .iconst 1, vi 1), (84, .aload_n 0, vi 0)] = true := by decide +kernel
theorem e_x_Mo_turnsOfStep_85 : decode b_Mo_turnsOfStep 85 = .ok (.getfield 16, 3) := by decide +kernel
theorem f_x_Mo_turnsOfStep_88_1 : mblkB b_Mo_turnsOfStep [(88, .aload_n 0, vi 0)] = true := by decide +kernel
theorem e_x_Mo_turnsOfStep_89 : decode b_Mo_turnsOfStep 89 = .ok (.getfield 27, 3) := by decide +kernel
theorem f_x_Mo_turnsOfStep_92_1 : mblkB b_Mo_turnsOfStep [(92, .iload_n 1, vi 0)] = true := by decide +kernel
theorem e_x_Mo_turnsOfStep_93 : decode b_Mo_turnsOfStep 93 = .ok (.aaload, 1) := by decide +kernel
theorem f_x_Mo_turnsOfStep_94_1 : mblkB b_Mo_turnsOfStep [(94, .iload_n 2, vi 0)] = true := by decide +kernel
theorem e_x_Mo_turnsOfStep_95 : decode b_Mo_turnsOfStep 95 = .ok (.iaload, 1) := by decide +kernel
theorem e_x_Mo_turnsOfStep_96 : decode b_Mo_turnsOfStep 96 = .ok (.iaload, 1) := by decide +kernel
theorem f_x_Mo_turnsOfStep_97_1 : mblkB b_Mo_turnsOfStep [(97, .iadd, vi 0)] = true := by decide +kernel
theorem e_x_Mo_turnsOfStep_98 : decode b_Mo_turnsOfStep 98 = .ok (.ireturn, 1) := by decide +kernel
theorem f_x_Mo_turnsOfStep_99_1 : mblkB b_Mo_turnsOfStep [(99, .iconst 1, vi 1)] = true := by decide +kernel
theorem e_x_Mo_turnsOfStep_100 : decode b_Mo_turnsOfStep 100 = .ok (.ireturn, 1) := by decide +kernel
set_option maxHeartbeats 4000000 in
set_option maxRecDepth 20000 in
theorem x_Mo_turnsOfStep {tst : mA → Int → Int → Option (Int × mA)} {fr lo : Nat} (htst : ∀ (l : Launch) (D : va_G) (B : Nat) (H0 : Heap) (ad : mAd) (A : mA) (a0 : Int) (a1 : Int) (hS : mStr D ad) (r9 : Int) (A9 : mA), tst A a0 a1 = some (r9, A9) → mMet l D B H0 ad y_Mo_turnsOfStep b_Mo_turnsOfStep 3 (some .int) fr lo [vr 0 0, vi a0, vi a1] A (fun v A' => v = some (vi r9) ∧ A' = A9)) : ∀ (l : Launch) (D : va_G) (B : Nat) (H0 : Heap) (ad : mAd) (A : mA) (a0 : Int) (a1 : Int) (hS : mStr D ad) (r9 : Int) (A9 : mA), f_Mo_turnsOfStep tst A a0 a1 = some (r9, A9) → mMet l D B H0 ad y_Mo_turnsOfStep b_Mo_turnsOfStep 3 (some .int) (fr + 4) (lo + 120) [vr 0 0, vi a0, vi a1] A (fun v A' => v = some (vi r9) ∧ A' = A9) := by
  intro l D B H0 ad A a0 a1  hS r9 A9 h
  refine m_met (by decide) rfl (fun g w0 C Rm Y E => ?_)
  show JM g D ad w0 A 0 [(0, vr 0 0), (1, vi a0), (2, vi a1)] []
  unfold f_Mo_turnsOfStep at h
  refine m_blk 1 [(0, vr 0 0), (1, vi a0), (2, vi a1)] [vr 0 0] C f_x_Mo_turnsOfStep_0_1 rfl ?_
  refine m_getr C e_x_Mo_turnsOfStep_1 fg_Mo_21 rfl (by decide) rfl ?_
  refine m_blk 5 [(0, vr 0 0), (1, vi a0), (2, vi a1)] [vi a0, vr 14 0] C f_x_Mo_turnsOfStep_4_1 rfl ?_
  obtain ⟨c1, h⟩ := igd h
  have k2 : a0.toNat < 6 := by omega
  refine m_aald C a0.toNat e_x_Mo_turnsOfStep_5 rfl rfl rfl (by decide) (by decide) c1.1 c1.2 (mz _ _) ?_
  refine m_blk 7 [(0, vr 0 0), (1, vi a0), (2, vi a1)] [vi a1, vr 34 a0.toNat] C f_x_Mo_turnsOfStep_6_1 rfl ?_
  obtain ⟨c3, h⟩ := igd h
  refine m_iald C e_x_Mo_turnsOfStep_7 rfl k2 (by decide) c3.1 c3.2 (A 34 a0.toNat a1.toNat) rfl ?_
  obtain ⟨c4, h⟩ := igd h
  by_cases c5 : (A 34 a0.toNat a1.toNat) = 3
  · have h := ifp c5 h
    refine m_tabIn (tgt := 36) C e_x_Mo_turnsOfStep_8 c4 (by omega) (by omega) (by rw [c5]; rfl) (by decide) ?_
    refine m_blk 43 [(0, vr 0 0), (1, vi a0), (2, vi a1)] [vr 0 0, vi (a1 + 1), vi a0, vr 0 0, vi 1] C f_x_Mo_turnsOfStep_36_7 rfl ?_
    refine m_getr C e_x_Mo_turnsOfStep_43 fg_Mo_30 rfl (by decide) rfl ?_
    refine m_blk 47 [(0, vr 0 0), (1, vi a0), (2, vi a1)] [vi a0, vr 17 0, vi (a1 + 1), vi a0, vr 0 0, vi 1] C f_x_Mo_turnsOfStep_46_1 rfl ?_
    have k6 : a0.toNat < 6 := by omega
    refine m_aald C a0.toNat e_x_Mo_turnsOfStep_47 rfl rfl rfl (by decide) (by decide) c1.1 c1.2 (mz _ _) ?_
    refine m_blk 49 [(0, vr 0 0), (1, vi a0), (2, vi a1)] [vi a1, vr 37 a0.toNat, vi (a1 + 1), vi a0, vr 0 0, vi 1] C f_x_Mo_turnsOfStep_48_1 rfl ?_
    refine m_iald C e_x_Mo_turnsOfStep_49 rfl k6 (by decide) c3.1 c3.2 (A 37 a0.toNat a1.toNat) rfl ?_
    obtain ⟨q7, e8, h⟩ := obd h
    refine m_callV C Rm Y [vi a0, vi (a1 + 1), vi (A 37 a0.toNat a1.toNat)] [vi 1] (x_Mo_turnsOf htst l D B H0 ad _ a0 (a1 + 1) (A 37 a0.toNat a1.toNat) hS _ _ e8) cl_Mo_251 rfl (by decide) rfl rfl e_x_Mo_turnsOfStep_50 rfl rfl rfl ⟨by show _ ≤ ((fr + 4) : Nat); omega, by show _ ≤ ((lo + 120) : Nat); omega⟩ ?_
    rintro _ _ ⟨rfl, rfl⟩
    show JM g D ad w0 q7.2 53 [(0, vr 0 0), (1, vi a0), (2, vi a1)] [vi q7.1, vi 1]
    refine m_blk 54 [(0, vr 0 0), (1, vi a0), (2, vi a1)] [vi (1 + q7.1)] C f_x_Mo_turnsOfStep_53_1 rfl ?_
    exact m_iret C Rm E e_x_Mo_turnsOfStep_54 (fin1 h)
  have h := ifn c5 h
  by_cases c9 : (A 34 a0.toNat a1.toNat) = 4
  · have h := ifp c9 h
    refine m_tabIn (tgt := 55) C e_x_Mo_turnsOfStep_8 c4 (by omega) (by omega) (by rw [c9]; rfl) (by decide) ?_
    refine m_blk 57 [(0, vr 0 0), (1, vi a0), (2, vi a1)] [vr 0 0, vi 1] C f_x_Mo_turnsOfStep_55_2 rfl ?_
    refine m_getr C e_x_Mo_turnsOfStep_57 fg_Mo_27 rfl (by decide) rfl ?_
    refine m_blk 61 [(0, vr 0 0), (1, vi a0), (2, vi a1)] [vi a0, vr 16 0, vi 1] C f_x_Mo_turnsOfStep_60_1 rfl ?_
    have k10 : a0.toNat < 6 := by omega
    refine m_aald C a0.toNat e_x_Mo_turnsOfStep_61 rfl rfl rfl (by decide) (by decide) c1.1 c1.2 (mz _ _) ?_
    refine m_blk 63 [(0, vr 0 0), (1, vi a0), (2, vi a1)] [vi a1, vr 36 a0.toNat, vi 1] C f_x_Mo_turnsOfStep_62_1 rfl ?_
    refine m_iald C e_x_Mo_turnsOfStep_63 rfl k10 (by decide) c3.1 c3.2 (A 36 a0.toNat a1.toNat) rfl ?_
    refine m_blk 70 [(0, vr 0 0), (1, vi a0), (2, vi a1)] [vr 0 0, vi (a1 + 1), vi a0, vr 0 0, vi (A 36 a0.toNat a1.toNat), vi 1] C f_x_Mo_turnsOfStep_64_6 rfl ?_
    refine m_getr C e_x_Mo_turnsOfStep_70 fg_Mo_30 rfl (by decide) rfl ?_
    refine m_blk 74 [(0, vr 0 0), (1, vi a0), (2, vi a1)] [vi a0, vr 17 0, vi (a1 + 1), vi a0, vr 0 0, vi (A 36 a0.toNat a1.toNat), vi 1] C f_x_Mo_turnsOfStep_73_1 rfl ?_
    have k11 : a0.toNat < 6 := by omega
    refine m_aald C a0.toNat e_x_Mo_turnsOfStep_74 rfl rfl rfl (by decide) (by decide) c1.1 c1.2 (mz _ _) ?_
    refine m_blk 76 [(0, vr 0 0), (1, vi a0), (2, vi a1)] [vi a1, vr 37 a0.toNat, vi (a1 + 1), vi a0, vr 0 0, vi (A 36 a0.toNat a1.toNat), vi 1] C f_x_Mo_turnsOfStep_75_1 rfl ?_
    refine m_iald C e_x_Mo_turnsOfStep_76 rfl k11 (by decide) c3.1 c3.2 (A 37 a0.toNat a1.toNat) rfl ?_
    obtain ⟨q12, e13, h⟩ := obd h
    refine m_callV C Rm Y [vi a0, vi (a1 + 1), vi (A 37 a0.toNat a1.toNat)] [vi (A 36 a0.toNat a1.toNat), vi 1] (x_Mo_turnsOf htst l D B H0 ad _ a0 (a1 + 1) (A 37 a0.toNat a1.toNat) hS _ _ e13) cl_Mo_251 rfl (by decide) rfl rfl e_x_Mo_turnsOfStep_77 rfl rfl rfl ⟨by show _ ≤ ((fr + 4) : Nat); omega, by show _ ≤ ((lo + 120) : Nat); omega⟩ ?_
    rintro _ _ ⟨rfl, rfl⟩
    show JM g D ad w0 q12.2 80 [(0, vr 0 0), (1, vi a0), (2, vi a1)] [vi q12.1, vi (A 36 a0.toNat a1.toNat), vi 1]
    refine m_blk 82 [(0, vr 0 0), (1, vi a0), (2, vi a1)] [vi (1 + ((A 36 a0.toNat a1.toNat) * q12.1))] C f_x_Mo_turnsOfStep_80_2 rfl ?_
    exact m_iret C Rm E e_x_Mo_turnsOfStep_82 (fin1 h)
  have h := ifn c9 h
  by_cases c14 : (A 34 a0.toNat a1.toNat) = 5
  · have h := ifp c14 h
    refine m_tabIn (tgt := 83) C e_x_Mo_turnsOfStep_8 c4 (by omega) (by omega) (by rw [c14]; rfl) (by decide) ?_
    refine m_blk 85 [(0, vr 0 0), (1, vi a0), (2, vi a1)] [vr 0 0, vi 1] C f_x_Mo_turnsOfStep_83_2 rfl ?_
    refine m_getr C e_x_Mo_turnsOfStep_85 fg_Mo_16 rfl (by decide) rfl ?_
    refine m_blk 89 [(0, vr 0 0), (1, vi a0), (2, vi a1)] [vr 0 0, vr 7 0, vi 1] C f_x_Mo_turnsOfStep_88_1 rfl ?_
    refine m_getr C e_x_Mo_turnsOfStep_89 fg_Mo_27 rfl (by decide) rfl ?_
    refine m_blk 93 [(0, vr 0 0), (1, vi a0), (2, vi a1)] [vi a0, vr 16 0, vr 7 0, vi 1] C f_x_Mo_turnsOfStep_92_1 rfl ?_
    have k15 : a0.toNat < 6 := by omega
    refine m_aald C a0.toNat e_x_Mo_turnsOfStep_93 rfl rfl rfl (by decide) (by decide) c1.1 c1.2 (mz _ _) ?_
    refine m_blk 95 [(0, vr 0 0), (1, vi a0), (2, vi a1)] [vi a1, vr 36 a0.toNat, vr 7 0, vi 1] C f_x_Mo_turnsOfStep_94_1 rfl ?_
    refine m_iald C e_x_Mo_turnsOfStep_95 rfl k15 (by decide) c3.1 c3.2 (A 36 a0.toNat a1.toNat) rfl ?_
    obtain ⟨c16, h⟩ := igd h
    refine m_iald C e_x_Mo_turnsOfStep_96 rfl (by decide) (by decide) c16.1 c16.2 (A 7 0 ((A 36 a0.toNat a1.toNat).toNat)) rfl ?_
    refine m_blk 98 [(0, vr 0 0), (1, vi a0), (2, vi a1)] [vi (1 + (A 7 0 ((A 36 a0.toNat a1.toNat).toNat)))] C f_x_Mo_turnsOfStep_97_1 rfl ?_
    exact m_iret C Rm E e_x_Mo_turnsOfStep_98 (fin1 h)
  have h := ifn c14 h
  refine m_tabOut (tgt := 99) C e_x_Mo_turnsOfStep_8 c4 (by omega) (by decide) ?_
  refine m_blk 100 [(0, vr 0 0), (1, vi a0), (2, vi a1)] [vi 1] C f_x_Mo_turnsOfStep_99_1 rfl ?_
  exact m_iret C Rm E e_x_Mo_turnsOfStep_100 (fin1 h)

def f_Mo_turnsOfStepN : Nat → mA → Int → Int → Option (Int × mA)
  | 0, _, _, _ => none
  | n + 1, A, a0, a1 => f_Mo_turnsOfStep (f_Mo_turnsOfStepN n) A a0 a1
theorem x_Mo_turnsOfStepN : ∀ n : Nat, ∀ (l : Launch) (D : va_G) (B : Nat) (H0 : Heap) (ad : mAd) (A : mA) (a0 : Int) (a1 : Int) (hS : mStr D ad) (r9 : Int) (A9 : mA), f_Mo_turnsOfStepN n A a0 a1 = some (r9, A9) → mMet l D B H0 ad y_Mo_turnsOfStep b_Mo_turnsOfStep 3 (some .int) (4 * n) (120 * n) [vr 0 0, vi a0, vi a1] A (fun v A' => v = some (vi r9) ∧ A' = A9) := by
  intro n
  induction n with
  | zero => intro l D B H0 ad A a0 a1 hS r9 A9 h; cases h
  | succ n ih =>
    intro l D B H0 ad A a0 a1 hS r9 A9 h
    have k := x_Mo_turnsOfStep ih l D B H0 ad A a0 a1 hS r9 A9 h
    have e1 : 4 * (n + 1) = 4 * n + 4 := by omega
    have e2 : 120 * (n + 1) = 120 * n + 120 := by omega
    rw [e1, e2]
    exact k
def f_Mo_program_181 : Nat → mA → Int → Option (Int × mA)
  | 0, _, _ => none
  | n + 1, A, b1 => (if g32 b1 then (if 10 ≤ b1 then (some ((((A 0 0 0) + 1) - 1), (mu A 0 0 0 ((A 0 0 0) + 1)))) else (if (0 ≤ (A 0 0 0) ∧ (A 0 0 0) < ((6 : Nat) : Int)) then (if (0 ≤ b1 ∧ b1 < ((10 : Nat) : Int)) then (f_Mo_program_181  n (mu A 47 ((A 0 0 0).toNat) b1.toNat 0) (b1 + 1)) else none) else none)) else none)
def f_Mo_program (A : mA)  : Option (Int × mA) := (if g32 (A 0 0 0) then (if (A 0 0 0) = 6 then (some ((-4), A)) else (Option.bind (f_Mo_next (mu (mu (mu (mu (mu (mu A 0 0 23 0) 0 0 27 0) 0 0 28 0) 0 0 29 0) 0 0 30 0) 0 0 31 0) ) (fun q8 => (Option.bind (f_Mo_block (f_Mo_stepN 6) q8.2 ) (fun q10 => (if g32 (q10.2 0 0 25) then (if (q10.2 0 0 25) = 0 then (if ((iOr (q10.2 0 0 31) 0) = 0 ∨ (iOr (q10.2 0 0 31) 0) = 1) then (if (iOr (q10.2 0 0 31) 0) = 0 then (if (0 ≤ (q10.2 0 0 0) ∧ (q10.2 0 0 0) < ((6 : Nat) : Int)) then (Option.bind (f_Mo_bitsOf (f_Mo_bitsOfStepN 20) (mu (mu (mu q10.2 0 0 31 (iOr (q10.2 0 0 31) 0)) 0 0 22 0) 5 0 ((q10.2 0 0 0).toNat) (q10.2 0 0 28)) (q10.2 0 0 0) 0 (q10.2 0 0 28)) (fun q17 => (Option.bind (f_Mo_turnsOf (f_Mo_turnsOfStepN 20) (mu q17.2 6 0 ((q10.2 0 0 0).toNat) q17.1) (q17.2 0 0 0) 0 (q17.2 0 0 28)) (fun q19 => (if (0 ≤ (q17.2 0 0 0) ∧ (q17.2 0 0 0) < ((6 : Nat) : Int)) then (if (0 ≤ (q19.2 0 0 0) ∧ (q19.2 0 0 0) < ((6 : Nat) : Int)) then (if g32 (q19.2 6 0 ((q19.2 0 0 0).toNat)) then (if 50 < (q19.2 6 0 ((q19.2 0 0 0).toNat)) then (some ((-4), (mu q19.2 7 0 ((q17.2 0 0 0).toNat) q19.1))) else (if g32 ((mu q19.2 7 0 ((q17.2 0 0 0).toNat) q19.1) 7 0 ((q19.2 0 0 0).toNat)) then (if ((mu q19.2 7 0 ((q17.2 0 0 0).toNat) q19.1) 7 0 ((q19.2 0 0 0).toNat)) ≤ 60 then (f_Mo_program_181  20 (mu q19.2 7 0 ((q17.2 0 0 0).toNat) q19.1) 0) else (some ((-4), (mu q19.2 7 0 ((q17.2 0 0 0).toNat) q19.1)))) else none)) else none) else none) else none))))) else none) else (some (((-100) - (q10.2 0 0 24)), (mu (mu q10.2 0 0 31 (iOr (q10.2 0 0 31) 0)) 0 0 22 0)))) else none) else (if ((iOr (q10.2 0 0 31) 1) = 0 ∨ (iOr (q10.2 0 0 31) 1) = 1) then (if (iOr (q10.2 0 0 31) 1) = 0 then (if (0 ≤ (q10.2 0 0 0) ∧ (q10.2 0 0 0) < ((6 : Nat) : Int)) then (Option.bind (f_Mo_bitsOf (f_Mo_bitsOfStepN 20) (mu (mu (mu q10.2 0 0 31 (iOr (q10.2 0 0 31) 1)) 0 0 22 0) 5 0 ((q10.2 0 0 0).toNat) (q10.2 0 0 28)) (q10.2 0 0 0) 0 (q10.2 0 0 28)) (fun q30 => (Option.bind (f_Mo_turnsOf (f_Mo_turnsOfStepN 20) (mu q30.2 6 0 ((q10.2 0 0 0).toNat) q30.1) (q30.2 0 0 0) 0 (q30.2 0 0 28)) (fun q32 => (if (0 ≤ (q30.2 0 0 0) ∧ (q30.2 0 0 0) < ((6 : Nat) : Int)) then (if (0 ≤ (q32.2 0 0 0) ∧ (q32.2 0 0 0) < ((6 : Nat) : Int)) then (if g32 (q32.2 6 0 ((q32.2 0 0 0).toNat)) then (if 50 < (q32.2 6 0 ((q32.2 0 0 0).toNat)) then (some ((-4), (mu q32.2 7 0 ((q30.2 0 0 0).toNat) q32.1))) else (if g32 ((mu q32.2 7 0 ((q30.2 0 0 0).toNat) q32.1) 7 0 ((q32.2 0 0 0).toNat)) then (if ((mu q32.2 7 0 ((q30.2 0 0 0).toNat) q32.1) 7 0 ((q32.2 0 0 0).toNat)) ≤ 60 then (f_Mo_program_181  20 (mu q32.2 7 0 ((q30.2 0 0 0).toNat) q32.1) 0) else (some ((-4), (mu q32.2 7 0 ((q30.2 0 0 0).toNat) q32.1)))) else none)) else none) else none) else none))))) else none) else (some (((-100) - (q10.2 0 0 24)), (mu (mu q10.2 0 0 31 (iOr (q10.2 0 0 31) 1)) 0 0 22 0)))) else none)) else none)))))) else none)
theorem f_x_Mo_program_0_1 : mblkB b_Mo_program [(0, .aload_n 0, vi 0)] = true := by decide +kernel
theorem e_x_Mo_program_1 : decode b_Mo_program 1 = .ok (.getfield 105, 3) := by decide +kernel
theorem f_x_Mo_program_4_1 : mblkB b_Mo_program [(4, .bipush 6, vi 6)] = true := by decide +kernel
theorem e_x_Mo_program_6 : decode b_Mo_program 6 = .ok (.if_icmp .ne 6, 3) := by decide +kernel
theorem f_x_Mo_program_12_2 : mblkB b_Mo_program [(12, .aload_n 0, vi 0), (13, .iconst 0, vi 0)] = true := by decide +kernel
theorem e_x_Mo_program_14 : decode b_Mo_program 14 = .ok (.putfield 125, 3) := by decide +kernel
theorem f_x_Mo_program_17_2 : mblkB b_Mo_program [(17, .aload_n 0, vi 0), (18, .iconst 0, vi 0)] = true := by decide +kernel
theorem e_x_Mo_program_19 : decode b_Mo_program 19 = .ok (.putfield 182, 3) := by decide +kernel
theorem f_x_Mo_program_22_2 : mblkB b_Mo_program [(22, .aload_n 0, vi 0), (23, .iconst 0, vi 0)] = true := by decide +kernel
theorem e_x_Mo_program_24 : decode b_Mo_program 24 = .ok (.putfield 192, 3) := by decide +kernel
theorem f_x_Mo_program_27_2 : mblkB b_Mo_program [(27, .aload_n 0, vi 0), (28, .iconst 0, vi 0)] = true := by decide +kernel
theorem e_x_Mo_program_29 : decode b_Mo_program 29 = .ok (.putfield 195, 3) := by decide +kernel
theorem f_x_Mo_program_32_2 : mblkB b_Mo_program [(32, .aload_n 0, vi 0), (33, .iconst 0, vi 0)] = true := by decide +kernel
theorem e_x_Mo_program_34 : decode b_Mo_program 34 = .ok (.putfield 212, 3) := by decide +kernel
theorem f_x_Mo_program_37_2 : mblkB b_Mo_program [(37, .aload_n 0, vi 0), (38, .iconst 0, vi 0)] = true := by decide +kernel
theorem e_x_Mo_program_39 : decode b_Mo_program 39 = .ok (.putfield 155, 3) := by decide +kernel
theorem f_x_Mo_program_42_1 : mblkB b_Mo_program [(42, .aload_n 0, vi 0)] = true := by decide +kernel
theorem e_x_Mo_program_43 : decode b_Mo_program 43 = .ok (.invokevirtual 176, 3) := by decide +kernel
theorem f_x_Mo_program_46_1 : mblkB b_Mo_program [(46, .aload_n 0, vi 0)] = true := by decide +kernel
theorem e_x_Mo_program_47 : decode b_Mo_program 47 = .ok (.invokevirtual 185, 3) := by decide +kernel
theorem f_x_Mo_program_50_2 : mblkB b_Mo_program [(50, .aload_n 0, vi 0), (51, .dup, vi 0)] = true := by decide +kernel
theorem e_x_Mo_program_52 : decode b_Mo_program 52 = .ok (.getfield 155, 3) := by decide +kernel
theorem f_x_Mo_program_55_1 : mblkB b_Mo_program [(55, .aload_n 0, vi 0)] = true := by decide +kernel
theorem e_x_Mo_program_56 : decode b_Mo_program 56 = .ok (.getfield 159, 3) := by decide +kernel
theorem e_x_Mo_program_59 : decode b_Mo_program 59 = .ok (.ifCond .eq 7, 3) := by decide +kernel
theorem f_x_Mo_program_66_2 : mblkB b_Mo_program [(66, .iconst 0, vi 0), (67, .ior, vi 0)] = true := by decide +kernel
theorem e_x_Mo_program_68 : decode b_Mo_program 68 = .ok (.putfield 155, 3) := by decide +kernel
theorem f_x_Mo_program_71_2 : mblkB b_Mo_program [(71, .aload_n 0, vi 0), (72, .iconst 0, vi 0)] = true := by decide +kernel
theorem e_x_Mo_program_73 : decode b_Mo_program 73 = .ok (.putfield 116, 3) := by decide +kernel
theorem f_x_Mo_program_76_1 : mblkB b_Mo_program [(76, .aload_n 0, vi 0)] = true := by decide +kernel
theorem e_x_Mo_program_77 : decode b_Mo_program 77 = .ok (.getfield 155, 3) := by decide +kernel
theorem e_x_Mo_program_80 : decode b_Mo_program 80 = .ok (.ifCond .eq 11, 3) := by decide +kernel
theorem f_x_Mo_program_91_1 : mblkB b_Mo_program [(91, .aload_n 0, vi 0)] = true := by decide +kernel
theorem e_x_Mo_program_92 : decode b_Mo_program 92 = .ok (.getfield 9, 3) := by decide +kernel
theorem f_x_Mo_program_95_1 : mblkB b_Mo_program [(95, .aload_n 0, vi 0)] = true := by decide +kernel
theorem e_x_Mo_program_96 : decode b_Mo_program 96 = .ok (.getfield 105, 3) := by decide +kernel
theorem f_x_Mo_program_99_1 : mblkB b_Mo_program [(99, .aload_n 0, vi 0)] = true := by decide +kernel
theorem e_x_Mo_program_100 : decode b_Mo_program 100 = .ok (.getfield 192, 3) := by decide +kernel
theorem e_x_Mo_program_103 : decode b_Mo_program 103 = .ok (.iastore, 1) := by decide +kernel
theorem f_x_Mo_program_104_1 : mblkB b_Mo_program [(104, .aload_n 0, vi 0)] = true := by decide +kernel
theorem e_x_Mo_program_105 : decode b_Mo_program 105 = .ok (.getfield 13, 3) := by decide +kernel
theorem f_x_Mo_program_108_1 : mblkB b_Mo_program [(108, .aload_n 0, vi 0)] = true := by decide +kernel
theorem e_x_Mo_program_109 : decode b_Mo_program 109 = .ok (.getfield 105, 3) := by decide +kernel
theorem f_x_Mo_program_112_2 : mblkB b_Mo_program [(112, .aload_n 0, vi 0), (113, .aload_n 0, vi 0)] = true := by decide +kernel
theorem e_x_Mo_program_114 : decode b_Mo_program 114 = .ok (.getfield 105, 3) := by decide +kernel
theorem f_x_Mo_program_117_2 : mblkB b_Mo_program [(117, .iconst 0, vi 0), (118, .aload_n 0, vi 0)] = true := by decide +kernel
theorem e_x_Mo_program_119 : decode b_Mo_program 119 = .ok (.getfield 192, 3) := by decide +kernel
theorem e_x_Mo_program_122 : decode b_Mo_program 122 = .ok (.invokevirtual 240, 3) := by decide +kernel
theorem e_x_Mo_program_125 : decode b_Mo_program 125 = .ok (.iastore, 1) := by decide +kernel
theorem f_x_Mo_program_126_1 : mblkB b_Mo_program [(126, .aload_n 0, vi 0)] = true := by decide +kernel
theorem e_x_Mo_program_127 : decode b_Mo_program 127 = .ok (.getfield 16, 3) := by decide +kernel
theorem f_x_Mo_program_130_1 : mblkB b_Mo_program [(130, .aload_n 0, vi 0)] = true := by decide +kernel
theorem e_x_Mo_program_131 : decode b_Mo_program 131 = .ok (.getfield 105, 3) := by decide +kernel
theorem f_x_Mo_program_134_2 : mblkB b_Mo_program [(134, .aload_n 0, vi 0), (135, .aload_n 0, vi 0)] = true := by decide +kernel
theorem e_x_Mo_program_136 : decode b_Mo_program 136 = .ok (.getfield 105, 3) := by decide +kernel
theorem f_x_Mo_program_139_2 : mblkB b_Mo_program [(139, .iconst 0, vi 0), (140, .aload_n 0, vi 0)] = true := by decide +kernel
theorem e_x_Mo_program_141 : decode b_Mo_program 141 = .ok (.getfield 192, 3) := by decide +kernel
theorem e_x_Mo_program_144 : decode b_Mo_program 144 = .ok (.invokevirtual 251, 3) := by decide +kernel
theorem e_x_Mo_program_147 : decode b_Mo_program 147 = .ok (.iastore, 1) := by decide +kernel
theorem f_x_Mo_program_148_1 : mblkB b_Mo_program [(148, .aload_n 0, vi 0)] = true := by decide +kernel
theorem e_x_Mo_program_149 : decode b_Mo_program 149 = .ok (.getfield 13, 3) := by decide +kernel
theorem f_x_Mo_program_152_1 : mblkB b_Mo_program [(152, .aload_n 0, vi 0)] = true := by decide +kernel
theorem e_x_Mo_program_153 : decode b_Mo_program 153 = .ok (.getfield 105, 3) := by decide +kernel
theorem e_x_Mo_program_156 : decode b_Mo_program 156 = .ok (.iaload, 1) := by decide +kernel
theorem f_x_Mo_program_157_1 : mblkB b_Mo_program [(157, .bipush 50, vi 50)] = true := by decide +kernel
theorem e_x_Mo_program_159 : decode b_Mo_program 159 = .ok (.if_icmp .gt 17, 3) := by decide +kernel
theorem f_x_Mo_program_176_1 : mblkB b_Mo_program [(176, .bipush (-4), vi (-4))] = true := by decide +kernel
theorem e_x_Mo_program_178 : decode b_Mo_program 178 = .ok (.ireturn, 1) := by decide +kernel
theorem f_x_Mo_program_162_1 : mblkB b_Mo_program [(162, .aload_n 0, vi 0)] = true := by decide +kernel
theorem e_x_Mo_program_163 : decode b_Mo_program 163 = .ok (.getfield 16, 3) := by decide +kernel
theorem f_x_Mo_program_166_1 : mblkB b_Mo_program [(166, .aload_n 0, vi 0)] = true := by decide +kernel
theorem e_x_Mo_program_167 : decode b_Mo_program 167 = .ok (.getfield 105, 3) := by decide +kernel
theorem e_x_Mo_program_170 : decode b_Mo_program 170 = .ok (.iaload, 1) := by decide +kernel
theorem f_x_Mo_program_171_1 : mblkB b_Mo_program [(171, .bipush 60, vi 60)] = true := by decide +kernel
theorem e_x_Mo_program_173 : decode b_Mo_program 173 = .ok (.if_icmp .le 6, 3) := by decide +kernel
theorem f_x_Mo_program_179_2 : mblkB b_Mo_program [(179, .iconst 0, vi 0), (180, .istore_n 1, vi 0)] = true := by decide +kernel
theorem f_x_Mo_program_83_2 : mblkB b_Mo_program [(83, .bipush (-100), vi (-100)), (85, .aload_n 0, vi 0)] = true := by decide +kernel
theorem e_x_Mo_program_86 : decode b_Mo_program 86 = .ok (.getfield 128, 3) := by decide +kernel
theorem f_x_Mo_program_89_1 : mblkB b_Mo_program [(89, .isub, vi 0)] = true := by decide +kernel
theorem e_x_Mo_program_90 : decode b_Mo_program 90 = .ok (.ireturn, 1) := by decide +kernel
theorem f_x_Mo_program_62_2 : mblkB b_Mo_program [(62, .iconst 1, vi 1), (63, .goto 4, vi 67)] = true := by decide +kernel
theorem f_x_Mo_program_67_1 : mblkB b_Mo_program [(67, .ior, vi 0)] = true := by decide +kernel
theorem f_x_Mo_program_9_1 : mblkB b_Mo_program [(9, .bipush (-4), vi (-4))] = true := by decide +kernel
theorem e_x_Mo_program_11 : decode b_Mo_program 11 = .ok (.ireturn, 1) := by decide +kernel
theorem f_x_Mo_program_181_2 : mblkB b_Mo_program [(181, .iload_n 1, vi 0), (182, .bipush 10, vi 10)] = true := by decide +kernel
theorem e_x_Mo_program_184 : decode b_Mo_program 184 = .ok (.if_icmp .ge 21, 3) := by decide +kernel
theorem f_x_Mo_program_205_2 : mblkB b_Mo_program [(205, .aload_n 0, vi 0), (206, .dup, vi 0)] = true := by decide +kernel
theorem e_x_Mo_program_207 : decode b_Mo_program 207 = .ok (.getfield 105, 3) := by decide +kernel
theorem f_x_Mo_program_210_2 : mblkB b_Mo_program [(210, .iconst 1, vi 1), (211, .iadd, vi 0)] = true := by decide +kernel
theorem e_x_Mo_program_212 : decode b_Mo_program 212 = .ok (.putfield 105, 3) := by decide +kernel
theorem f_x_Mo_program_215_1 : mblkB b_Mo_program [(215, .aload_n 0, vi 0)] = true := by decide +kernel
theorem e_x_Mo_program_216 : decode b_Mo_program 216 = .ok (.getfield 105, 3) := by decide +kernel
theorem f_x_Mo_program_219_2 : mblkB b_Mo_program [(219, .iconst 1, vi 1), (220, .isub, vi 0)] = true := by decide +kernel
theorem e_x_Mo_program_221 : decode b_Mo_program 221 = .ok (.ireturn, 1) := by decide +kernel
theorem f_x_Mo_program_187_1 : mblkB b_Mo_program [(187, .aload_n 0, vi 0)] = true := by decide +kernel
theorem e_x_Mo_program_188 : decode b_Mo_program 188 = .ok (.getfield 65, 3) := by decide +kernel
theorem f_x_Mo_program_191_1 : mblkB b_Mo_program [(191, .aload_n 0, vi 0)] = true := by decide +kernel
theorem e_x_Mo_program_192 : decode b_Mo_program 192 = .ok (.getfield 105, 3) := by decide +kernel
theorem e_x_Mo_program_195 : decode b_Mo_program 195 = .ok (.aaload, 1) := by decide +kernel
theorem f_x_Mo_program_196_2 : mblkB b_Mo_program [(196, .iload_n 1, vi 0), (197, .iconst 0, vi 0)] = true := by decide +kernel
theorem e_x_Mo_program_198 : decode b_Mo_program 198 = .ok (.bastore, 1) := by decide +kernel
theorem f_x_Mo_program_199_2 : mblkB b_Mo_program [(199, .iinc 1 1, vi 1), (202, .goto (-21), vi 181)] = true := by decide +kernel
set_option maxHeartbeats 4000000 in
set_option maxRecDepth 20000 in
theorem x_Mo_program  : ∀ (l : Launch) (D : va_G) (B : Nat) (H0 : Heap) (ad : mAd) (A : mA)  (hS : mStr D ad) (r9 : Int) (A9 : mA), f_Mo_program  A  = some (r9, A9) → mMet l D B H0 ad y_Mo_program b_Mo_program 2 (some .int) 1705 66620 [vr 0 0] A (fun v A' => v = some (vi r9) ∧ A' = A9) := by
  intro l D B H0 ad A   hS r9 A9 h
  refine m_met (by decide) rfl (fun g w0 C Rm Y E => ?_)
  have hd_181 : ∀ (n : Nat) (A : mA) (b1 : Int) , f_Mo_program_181  n A b1 = some (r9, A9) → JM g D ad w0 A 181 [(0, vr 0 0), (1, vi b1)] [] := by
    intro n
    induction n with
    | zero => intro A b1  h; cases h
    | succ n ih =>
      intro A b1  h
      unfold f_Mo_program_181 at h
      refine m_blk 184 [(0, vr 0 0), (1, vi b1)] [vi 10, vi b1] C f_x_Mo_program_181_2 rfl ?_
      obtain ⟨c1, h⟩ := igd h
      refine m_icmp_ge (tgt := 205) C e_x_Mo_program_184 (by decide) c1 (by decide) (fun c2 => ?_) (fun c2 => ?_)
      · have h := ifp c2 h
        refine m_blk 207 [(0, vr 0 0), (1, vi b1)] [vr 0 0, vr 0 0] C f_x_Mo_program_205_2 rfl ?_
        refine m_geti C e_x_Mo_program_207 fg_Mo_105 rfl (by decide) rfl (A 0 0 0) rfl ?_
        refine m_blk 212 [(0, vr 0 0), (1, vi b1)] [vi ((A 0 0 0) + 1), vr 0 0] C f_x_Mo_program_210_2 rfl ?_
        refine m_puti C e_x_Mo_program_212 fp_Mo_105 rfl (by decide) rfl ?_
        refine m_blk 216 [(0, vr 0 0), (1, vi b1)] [vr 0 0] C f_x_Mo_program_215_1 rfl ?_
        refine m_geti C e_x_Mo_program_216 fg_Mo_105 rfl (by decide) rfl ((A 0 0 0) + 1) (mu_at A 0 0 0 ((A 0 0 0) + 1)) ?_
        refine m_blk 221 [(0, vr 0 0), (1, vi b1)] [vi (((A 0 0 0) + 1) - 1)] C f_x_Mo_program_219_2 rfl ?_
        exact m_iret C Rm E e_x_Mo_program_221 (fin1 h)
      · have h := ifn c2 h
        refine m_blk 188 [(0, vr 0 0), (1, vi b1)] [vr 0 0] C f_x_Mo_program_187_1 rfl ?_
        refine m_getr C e_x_Mo_program_188 fg_Mo_65 rfl (by decide) rfl ?_
        refine m_blk 192 [(0, vr 0 0), (1, vi b1)] [vr 0 0, vr 27 0] C f_x_Mo_program_191_1 rfl ?_
        refine m_geti C e_x_Mo_program_192 fg_Mo_105 rfl (by decide) rfl (A 0 0 0) rfl ?_
        obtain ⟨c3, h⟩ := igd h
        have k4 : (A 0 0 0).toNat < 6 := by omega
        refine m_aald C ((A 0 0 0).toNat) e_x_Mo_program_195 rfl rfl rfl (by decide) (by decide) c3.1 c3.2 (mz _ _) ?_
        refine m_blk 198 [(0, vr 0 0), (1, vi b1)] [vi 0, vi b1, vr 47 ((A 0 0 0).toNat)] C f_x_Mo_program_196_2 rfl ?_
        obtain ⟨c5, h⟩ := igd h
        refine m_zast C e_x_Mo_program_198 rfl k4 (by decide) c5.1 c5.2 (Or.inl rfl) ?_
        refine m_blk 181 [(1, vi (b1 + 1)), (0, vr 0 0)] [] C f_x_Mo_program_199_2 rfl ?_
        refine m_loc [(0, vr 0 0), (1, vi (b1 + 1))] ⟨rfl, rfl, trivial⟩ ?_
        exact ih (mu A 47 ((A 0 0 0).toNat) b1.toNat 0) (b1 + 1)  h
  show JM g D ad w0 A 0 [(0, vr 0 0)] []
  unfold f_Mo_program at h
  refine m_blk 1 [(0, vr 0 0)] [vr 0 0] C f_x_Mo_program_0_1 rfl ?_
  refine m_geti C e_x_Mo_program_1 fg_Mo_105 rfl (by decide) rfl (A 0 0 0) rfl ?_
  refine m_blk 6 [(0, vr 0 0)] [vi 6, vi (A 0 0 0)] C f_x_Mo_program_4_1 rfl ?_
  obtain ⟨c6, h⟩ := igd h
  refine m_icmp_ne (tgt := 12) C e_x_Mo_program_6 (by decide) c6 (by decide) (fun c7 => ?_) (fun c7 => ?_)
  · have h := ifn c7 h
    refine m_blk 14 [(0, vr 0 0)] [vi 0, vr 0 0] C f_x_Mo_program_12_2 rfl ?_
    refine m_puti C e_x_Mo_program_14 fp_Mo_125 rfl (by decide) rfl ?_
    refine m_blk 19 [(0, vr 0 0)] [vi 0, vr 0 0] C f_x_Mo_program_17_2 rfl ?_
    refine m_puti C e_x_Mo_program_19 fp_Mo_182 rfl (by decide) rfl ?_
    refine m_blk 24 [(0, vr 0 0)] [vi 0, vr 0 0] C f_x_Mo_program_22_2 rfl ?_
    refine m_puti C e_x_Mo_program_24 fp_Mo_192 rfl (by decide) rfl ?_
    refine m_blk 29 [(0, vr 0 0)] [vi 0, vr 0 0] C f_x_Mo_program_27_2 rfl ?_
    refine m_puti C e_x_Mo_program_29 fp_Mo_195 rfl (by decide) rfl ?_
    refine m_blk 34 [(0, vr 0 0)] [vi 0, vr 0 0] C f_x_Mo_program_32_2 rfl ?_
    refine m_puti C e_x_Mo_program_34 fp_Mo_212 rfl (by decide) rfl ?_
    refine m_blk 39 [(0, vr 0 0)] [vi 0, vr 0 0] C f_x_Mo_program_37_2 rfl ?_
    refine m_putz C e_x_Mo_program_39 fp_Mo_155 rfl (by decide) rfl (Or.inl rfl) ?_
    refine m_blk 43 [(0, vr 0 0)] [vr 0 0] C f_x_Mo_program_42_1 rfl ?_
    obtain ⟨q8, e9, h⟩ := obd h
    refine m_callV C Rm Y [] [] (x_Mo_next l D B H0 ad _  hS _ _ e9) cl_Mo_176 rfl (by decide) rfl rfl e_x_Mo_program_43 rfl rfl rfl ⟨by decide, by decide⟩ ?_
    rintro _ _ ⟨rfl, rfl⟩
    show JM g D ad w0 q8.2 46 [(0, vr 0 0)] []
    refine m_blk 47 [(0, vr 0 0)] [vr 0 0] C f_x_Mo_program_46_1 rfl ?_
    obtain ⟨q10, e11, h⟩ := obd h
    refine m_callV C Rm Y [] [] (x_Mo_block (x_Mo_stepN 6) l D B H0 ad _  hS _ _ e11) cl_Mo_185 rfl (by decide) rfl rfl e_x_Mo_program_47 rfl rfl rfl ⟨by decide, by decide⟩ ?_
    rintro _ _ ⟨rfl, rfl⟩
    show JM g D ad w0 q10.2 50 [(0, vr 0 0)] []
    refine m_blk 52 [(0, vr 0 0)] [vr 0 0, vr 0 0] C f_x_Mo_program_50_2 rfl ?_
    refine m_geti C e_x_Mo_program_52 fg_Mo_155 rfl (by decide) rfl (q10.2 0 0 31) rfl ?_
    refine m_blk 56 [(0, vr 0 0)] [vr 0 0, vi (q10.2 0 0 31), vr 0 0] C f_x_Mo_program_55_1 rfl ?_
    refine m_geti C e_x_Mo_program_56 fg_Mo_159 rfl (by decide) rfl (q10.2 0 0 25) rfl ?_
    obtain ⟨c12, h⟩ := igd h
    refine m_if_eq (tgt := 66) C e_x_Mo_program_59 (by decide) c12 (fun c13 => ?_) (fun c13 => ?_)
    · have h := ifp c13 h
      refine m_blk 68 [(0, vr 0 0)] [vi (iOr (q10.2 0 0 31) 0), vr 0 0] C f_x_Mo_program_66_2 rfl ?_
      obtain ⟨c14, h⟩ := igd h
      refine m_putz C e_x_Mo_program_68 fp_Mo_155 rfl (by decide) rfl c14 ?_
      refine m_blk 73 [(0, vr 0 0)] [vi 0, vr 0 0] C f_x_Mo_program_71_2 rfl ?_
      refine m_puti C e_x_Mo_program_73 fp_Mo_116 rfl (by decide) rfl ?_
      refine m_blk 77 [(0, vr 0 0)] [vr 0 0] C f_x_Mo_program_76_1 rfl ?_
      refine m_geti C e_x_Mo_program_77 fg_Mo_155 rfl (by decide) rfl (iOr (q10.2 0 0 31) 0) (mu_at q10.2 0 0 31 (iOr (q10.2 0 0 31) 0)) ?_
      refine m_if_eq (tgt := 91) C e_x_Mo_program_80 (by decide) (iOr_r _ _) (fun c15 => ?_) (fun c15 => ?_)
      · have h := ifp c15 h
        refine m_blk 92 [(0, vr 0 0)] [vr 0 0] C f_x_Mo_program_91_1 rfl ?_
        refine m_getr C e_x_Mo_program_92 fg_Mo_9 rfl (by decide) rfl ?_
        refine m_blk 96 [(0, vr 0 0)] [vr 0 0, vr 5 0] C f_x_Mo_program_95_1 rfl ?_
        refine m_geti C e_x_Mo_program_96 fg_Mo_105 rfl (by decide) rfl (q10.2 0 0 0) rfl ?_
        refine m_blk 100 [(0, vr 0 0)] [vr 0 0, vi (q10.2 0 0 0), vr 5 0] C f_x_Mo_program_99_1 rfl ?_
        refine m_geti C e_x_Mo_program_100 fg_Mo_192 rfl (by decide) rfl (q10.2 0 0 28) rfl ?_
        obtain ⟨c16, h⟩ := igd h
        refine m_iast C e_x_Mo_program_103 rfl (by decide) (by decide) c16.1 c16.2 ?_
        refine m_blk 105 [(0, vr 0 0)] [vr 0 0] C f_x_Mo_program_104_1 rfl ?_
        refine m_getr C e_x_Mo_program_105 fg_Mo_13 rfl (by decide) rfl ?_
        refine m_blk 109 [(0, vr 0 0)] [vr 0 0, vr 6 0] C f_x_Mo_program_108_1 rfl ?_
        refine m_geti C e_x_Mo_program_109 fg_Mo_105 rfl (by decide) rfl (q10.2 0 0 0) rfl ?_
        refine m_blk 114 [(0, vr 0 0)] [vr 0 0, vr 0 0, vi (q10.2 0 0 0), vr 6 0] C f_x_Mo_program_112_2 rfl ?_
        refine m_geti C e_x_Mo_program_114 fg_Mo_105 rfl (by decide) rfl (q10.2 0 0 0) rfl ?_
        refine m_blk 119 [(0, vr 0 0)] [vr 0 0, vi 0, vi (q10.2 0 0 0), vr 0 0, vi (q10.2 0 0 0), vr 6 0] C f_x_Mo_program_117_2 rfl ?_
        refine m_geti C e_x_Mo_program_119 fg_Mo_192 rfl (by decide) rfl (q10.2 0 0 28) rfl ?_
        obtain ⟨q17, e18, h⟩ := obd h
        refine m_callV C Rm Y [vi (q10.2 0 0 0), vi 0, vi (q10.2 0 0 28)] [vi (q10.2 0 0 0), vr 6 0] (x_Mo_bitsOf (x_Mo_bitsOfStepN 20) l D B H0 ad _ (q10.2 0 0 0) 0 (q10.2 0 0 28) hS _ _ e18) cl_Mo_240 rfl (by decide) rfl rfl e_x_Mo_program_122 rfl rfl rfl ⟨by decide, by decide⟩ ?_
        rintro _ _ ⟨rfl, rfl⟩
        show JM g D ad w0 q17.2 125 [(0, vr 0 0)] [vi q17.1, vi (q10.2 0 0 0), vr 6 0]
        refine m_iast C e_x_Mo_program_125 rfl (by decide) (by decide) c16.1 c16.2 ?_
        refine m_blk 127 [(0, vr 0 0)] [vr 0 0] C f_x_Mo_program_126_1 rfl ?_
        refine m_getr C e_x_Mo_program_127 fg_Mo_16 rfl (by decide) rfl ?_
        refine m_blk 131 [(0, vr 0 0)] [vr 0 0, vr 7 0] C f_x_Mo_program_130_1 rfl ?_
        refine m_geti C e_x_Mo_program_131 fg_Mo_105 rfl (by decide) rfl (q17.2 0 0 0) rfl ?_
        refine m_blk 136 [(0, vr 0 0)] [vr 0 0, vr 0 0, vi (q17.2 0 0 0), vr 7 0] C f_x_Mo_program_134_2 rfl ?_
        refine m_geti C e_x_Mo_program_136 fg_Mo_105 rfl (by decide) rfl (q17.2 0 0 0) rfl ?_
        refine m_blk 141 [(0, vr 0 0)] [vr 0 0, vi 0, vi (q17.2 0 0 0), vr 0 0, vi (q17.2 0 0 0), vr 7 0] C f_x_Mo_program_139_2 rfl ?_
        refine m_geti C e_x_Mo_program_141 fg_Mo_192 rfl (by decide) rfl (q17.2 0 0 28) rfl ?_
        obtain ⟨q19, e20, h⟩ := obd h
        refine m_callV C Rm Y [vi (q17.2 0 0 0), vi 0, vi (q17.2 0 0 28)] [vi (q17.2 0 0 0), vr 7 0] (x_Mo_turnsOf (x_Mo_turnsOfStepN 20) l D B H0 ad _ (q17.2 0 0 0) 0 (q17.2 0 0 28) hS _ _ e20) cl_Mo_251 rfl (by decide) rfl rfl e_x_Mo_program_144 rfl rfl rfl ⟨by decide, by decide⟩ ?_
        rintro _ _ ⟨rfl, rfl⟩
        show JM g D ad w0 q19.2 147 [(0, vr 0 0)] [vi q19.1, vi (q17.2 0 0 0), vr 7 0]
        obtain ⟨c21, h⟩ := igd h
        refine m_iast C e_x_Mo_program_147 rfl (by decide) (by decide) c21.1 c21.2 ?_
        refine m_blk 149 [(0, vr 0 0)] [vr 0 0] C f_x_Mo_program_148_1 rfl ?_
        refine m_getr C e_x_Mo_program_149 fg_Mo_13 rfl (by decide) rfl ?_
        refine m_blk 153 [(0, vr 0 0)] [vr 0 0, vr 6 0] C f_x_Mo_program_152_1 rfl ?_
        refine m_geti C e_x_Mo_program_153 fg_Mo_105 rfl (by decide) rfl (q19.2 0 0 0) rfl ?_
        obtain ⟨c22, h⟩ := igd h
        refine m_iald C e_x_Mo_program_156 rfl (by decide) (by decide) c22.1 c22.2 (q19.2 6 0 ((q19.2 0 0 0).toNat)) rfl ?_
        refine m_blk 159 [(0, vr 0 0)] [vi 50, vi (q19.2 6 0 ((q19.2 0 0 0).toNat))] C f_x_Mo_program_157_1 rfl ?_
        obtain ⟨c23, h⟩ := igd h
        refine m_icmp_gt (tgt := 176) C e_x_Mo_program_159 (by decide) c23 (by decide) (fun c24 => ?_) (fun c24 => ?_)
        · have h := ifp c24 h
          refine m_blk 178 [(0, vr 0 0)] [vi (-4)] C f_x_Mo_program_176_1 rfl ?_
          exact m_iret C Rm E e_x_Mo_program_178 (fin1 h)
        · have h := ifn c24 h
          refine m_blk 163 [(0, vr 0 0)] [vr 0 0] C f_x_Mo_program_162_1 rfl ?_
          refine m_getr C e_x_Mo_program_163 fg_Mo_16 rfl (by decide) rfl ?_
          refine m_blk 167 [(0, vr 0 0)] [vr 0 0, vr 7 0] C f_x_Mo_program_166_1 rfl ?_
          refine m_geti C e_x_Mo_program_167 fg_Mo_105 rfl (by decide) rfl (q19.2 0 0 0) rfl ?_
          refine m_iald C e_x_Mo_program_170 rfl (by decide) (by decide) c22.1 c22.2 ((mu q19.2 7 0 ((q17.2 0 0 0).toNat) q19.1) 7 0 ((q19.2 0 0 0).toNat)) rfl ?_
          refine m_blk 173 [(0, vr 0 0)] [vi 60, vi ((mu q19.2 7 0 ((q17.2 0 0 0).toNat) q19.1) 7 0 ((q19.2 0 0 0).toNat))] C f_x_Mo_program_171_1 rfl ?_
          obtain ⟨c25, h⟩ := igd h
          refine m_icmp_le (tgt := 179) C e_x_Mo_program_173 (by decide) c25 (by decide) (fun c26 => ?_) (fun c26 => ?_)
          · have h := ifp c26 h
            refine m_blk 181 [(1, vi 0), (0, vr 0 0)] [] C f_x_Mo_program_179_2 rfl ?_
            refine m_loc [(0, vr 0 0), (1, vi 0)] ⟨rfl, rfl, trivial⟩ ?_
            exact hd_181 _ (mu q19.2 7 0 ((q17.2 0 0 0).toNat) q19.1) 0  h
          · have h := ifn c26 h
            refine m_blk 178 [(0, vr 0 0)] [vi (-4)] C f_x_Mo_program_176_1 rfl ?_
            exact m_iret C Rm E e_x_Mo_program_178 (fin1 h)
      · have h := ifn c15 h
        refine m_blk 86 [(0, vr 0 0)] [vr 0 0, vi (-100)] C f_x_Mo_program_83_2 rfl ?_
        refine m_geti C e_x_Mo_program_86 fg_Mo_128 rfl (by decide) rfl (q10.2 0 0 24) rfl ?_
        refine m_blk 90 [(0, vr 0 0)] [vi ((-100) - (q10.2 0 0 24))] C f_x_Mo_program_89_1 rfl ?_
        exact m_iret C Rm E e_x_Mo_program_90 (fin1 h)
    · have h := ifn c13 h
      refine m_blk 67 [(0, vr 0 0)] [vi 1, vi (q10.2 0 0 31), vr 0 0] C f_x_Mo_program_62_2 rfl ?_
      refine m_blk 68 [(0, vr 0 0)] [vi (iOr (q10.2 0 0 31) 1), vr 0 0] C f_x_Mo_program_67_1 rfl ?_
      obtain ⟨c27, h⟩ := igd h
      refine m_putz C e_x_Mo_program_68 fp_Mo_155 rfl (by decide) rfl c27 ?_
      refine m_blk 73 [(0, vr 0 0)] [vi 0, vr 0 0] C f_x_Mo_program_71_2 rfl ?_
      refine m_puti C e_x_Mo_program_73 fp_Mo_116 rfl (by decide) rfl ?_
      refine m_blk 77 [(0, vr 0 0)] [vr 0 0] C f_x_Mo_program_76_1 rfl ?_
      refine m_geti C e_x_Mo_program_77 fg_Mo_155 rfl (by decide) rfl (iOr (q10.2 0 0 31) 1) (mu_at q10.2 0 0 31 (iOr (q10.2 0 0 31) 1)) ?_
      refine m_if_eq (tgt := 91) C e_x_Mo_program_80 (by decide) (iOr_r _ _) (fun c28 => ?_) (fun c28 => ?_)
      · have h := ifp c28 h
        refine m_blk 92 [(0, vr 0 0)] [vr 0 0] C f_x_Mo_program_91_1 rfl ?_
        refine m_getr C e_x_Mo_program_92 fg_Mo_9 rfl (by decide) rfl ?_
        refine m_blk 96 [(0, vr 0 0)] [vr 0 0, vr 5 0] C f_x_Mo_program_95_1 rfl ?_
        refine m_geti C e_x_Mo_program_96 fg_Mo_105 rfl (by decide) rfl (q10.2 0 0 0) rfl ?_
        refine m_blk 100 [(0, vr 0 0)] [vr 0 0, vi (q10.2 0 0 0), vr 5 0] C f_x_Mo_program_99_1 rfl ?_
        refine m_geti C e_x_Mo_program_100 fg_Mo_192 rfl (by decide) rfl (q10.2 0 0 28) rfl ?_
        obtain ⟨c29, h⟩ := igd h
        refine m_iast C e_x_Mo_program_103 rfl (by decide) (by decide) c29.1 c29.2 ?_
        refine m_blk 105 [(0, vr 0 0)] [vr 0 0] C f_x_Mo_program_104_1 rfl ?_
        refine m_getr C e_x_Mo_program_105 fg_Mo_13 rfl (by decide) rfl ?_
        refine m_blk 109 [(0, vr 0 0)] [vr 0 0, vr 6 0] C f_x_Mo_program_108_1 rfl ?_
        refine m_geti C e_x_Mo_program_109 fg_Mo_105 rfl (by decide) rfl (q10.2 0 0 0) rfl ?_
        refine m_blk 114 [(0, vr 0 0)] [vr 0 0, vr 0 0, vi (q10.2 0 0 0), vr 6 0] C f_x_Mo_program_112_2 rfl ?_
        refine m_geti C e_x_Mo_program_114 fg_Mo_105 rfl (by decide) rfl (q10.2 0 0 0) rfl ?_
        refine m_blk 119 [(0, vr 0 0)] [vr 0 0, vi 0, vi (q10.2 0 0 0), vr 0 0, vi (q10.2 0 0 0), vr 6 0] C f_x_Mo_program_117_2 rfl ?_
        refine m_geti C e_x_Mo_program_119 fg_Mo_192 rfl (by decide) rfl (q10.2 0 0 28) rfl ?_
        obtain ⟨q30, e31, h⟩ := obd h
        refine m_callV C Rm Y [vi (q10.2 0 0 0), vi 0, vi (q10.2 0 0 28)] [vi (q10.2 0 0 0), vr 6 0] (x_Mo_bitsOf (x_Mo_bitsOfStepN 20) l D B H0 ad _ (q10.2 0 0 0) 0 (q10.2 0 0 28) hS _ _ e31) cl_Mo_240 rfl (by decide) rfl rfl e_x_Mo_program_122 rfl rfl rfl ⟨by decide, by decide⟩ ?_
        rintro _ _ ⟨rfl, rfl⟩
        show JM g D ad w0 q30.2 125 [(0, vr 0 0)] [vi q30.1, vi (q10.2 0 0 0), vr 6 0]
        refine m_iast C e_x_Mo_program_125 rfl (by decide) (by decide) c29.1 c29.2 ?_
        refine m_blk 127 [(0, vr 0 0)] [vr 0 0] C f_x_Mo_program_126_1 rfl ?_
        refine m_getr C e_x_Mo_program_127 fg_Mo_16 rfl (by decide) rfl ?_
        refine m_blk 131 [(0, vr 0 0)] [vr 0 0, vr 7 0] C f_x_Mo_program_130_1 rfl ?_
        refine m_geti C e_x_Mo_program_131 fg_Mo_105 rfl (by decide) rfl (q30.2 0 0 0) rfl ?_
        refine m_blk 136 [(0, vr 0 0)] [vr 0 0, vr 0 0, vi (q30.2 0 0 0), vr 7 0] C f_x_Mo_program_134_2 rfl ?_
        refine m_geti C e_x_Mo_program_136 fg_Mo_105 rfl (by decide) rfl (q30.2 0 0 0) rfl ?_
        refine m_blk 141 [(0, vr 0 0)] [vr 0 0, vi 0, vi (q30.2 0 0 0), vr 0 0, vi (q30.2 0 0 0), vr 7 0] C f_x_Mo_program_139_2 rfl ?_
        refine m_geti C e_x_Mo_program_141 fg_Mo_192 rfl (by decide) rfl (q30.2 0 0 28) rfl ?_
        obtain ⟨q32, e33, h⟩ := obd h
        refine m_callV C Rm Y [vi (q30.2 0 0 0), vi 0, vi (q30.2 0 0 28)] [vi (q30.2 0 0 0), vr 7 0] (x_Mo_turnsOf (x_Mo_turnsOfStepN 20) l D B H0 ad _ (q30.2 0 0 0) 0 (q30.2 0 0 28) hS _ _ e33) cl_Mo_251 rfl (by decide) rfl rfl e_x_Mo_program_144 rfl rfl rfl ⟨by decide, by decide⟩ ?_
        rintro _ _ ⟨rfl, rfl⟩
        show JM g D ad w0 q32.2 147 [(0, vr 0 0)] [vi q32.1, vi (q30.2 0 0 0), vr 7 0]
        obtain ⟨c34, h⟩ := igd h
        refine m_iast C e_x_Mo_program_147 rfl (by decide) (by decide) c34.1 c34.2 ?_
        refine m_blk 149 [(0, vr 0 0)] [vr 0 0] C f_x_Mo_program_148_1 rfl ?_
        refine m_getr C e_x_Mo_program_149 fg_Mo_13 rfl (by decide) rfl ?_
        refine m_blk 153 [(0, vr 0 0)] [vr 0 0, vr 6 0] C f_x_Mo_program_152_1 rfl ?_
        refine m_geti C e_x_Mo_program_153 fg_Mo_105 rfl (by decide) rfl (q32.2 0 0 0) rfl ?_
        obtain ⟨c35, h⟩ := igd h
        refine m_iald C e_x_Mo_program_156 rfl (by decide) (by decide) c35.1 c35.2 (q32.2 6 0 ((q32.2 0 0 0).toNat)) rfl ?_
        refine m_blk 159 [(0, vr 0 0)] [vi 50, vi (q32.2 6 0 ((q32.2 0 0 0).toNat))] C f_x_Mo_program_157_1 rfl ?_
        obtain ⟨c36, h⟩ := igd h
        refine m_icmp_gt (tgt := 176) C e_x_Mo_program_159 (by decide) c36 (by decide) (fun c37 => ?_) (fun c37 => ?_)
        · have h := ifp c37 h
          refine m_blk 178 [(0, vr 0 0)] [vi (-4)] C f_x_Mo_program_176_1 rfl ?_
          exact m_iret C Rm E e_x_Mo_program_178 (fin1 h)
        · have h := ifn c37 h
          refine m_blk 163 [(0, vr 0 0)] [vr 0 0] C f_x_Mo_program_162_1 rfl ?_
          refine m_getr C e_x_Mo_program_163 fg_Mo_16 rfl (by decide) rfl ?_
          refine m_blk 167 [(0, vr 0 0)] [vr 0 0, vr 7 0] C f_x_Mo_program_166_1 rfl ?_
          refine m_geti C e_x_Mo_program_167 fg_Mo_105 rfl (by decide) rfl (q32.2 0 0 0) rfl ?_
          refine m_iald C e_x_Mo_program_170 rfl (by decide) (by decide) c35.1 c35.2 ((mu q32.2 7 0 ((q30.2 0 0 0).toNat) q32.1) 7 0 ((q32.2 0 0 0).toNat)) rfl ?_
          refine m_blk 173 [(0, vr 0 0)] [vi 60, vi ((mu q32.2 7 0 ((q30.2 0 0 0).toNat) q32.1) 7 0 ((q32.2 0 0 0).toNat))] C f_x_Mo_program_171_1 rfl ?_
          obtain ⟨c38, h⟩ := igd h
          refine m_icmp_le (tgt := 179) C e_x_Mo_program_173 (by decide) c38 (by decide) (fun c39 => ?_) (fun c39 => ?_)
          · have h := ifp c39 h
            refine m_blk 181 [(1, vi 0), (0, vr 0 0)] [] C f_x_Mo_program_179_2 rfl ?_
            refine m_loc [(0, vr 0 0), (1, vi 0)] ⟨rfl, rfl, trivial⟩ ?_
            exact hd_181 _ (mu q32.2 7 0 ((q30.2 0 0 0).toNat) q32.1) 0  h
          · have h := ifn c39 h
            refine m_blk 178 [(0, vr 0 0)] [vi (-4)] C f_x_Mo_program_176_1 rfl ?_
            exact m_iret C Rm E e_x_Mo_program_178 (fin1 h)
      · have h := ifn c28 h
        refine m_blk 86 [(0, vr 0 0)] [vr 0 0, vi (-100)] C f_x_Mo_program_83_2 rfl ?_
        refine m_geti C e_x_Mo_program_86 fg_Mo_128 rfl (by decide) rfl (q10.2 0 0 24) rfl ?_
        refine m_blk 90 [(0, vr 0 0)] [vi ((-100) - (q10.2 0 0 24))] C f_x_Mo_program_89_1 rfl ?_
        exact m_iret C Rm E e_x_Mo_program_90 (fin1 h)
  · have h := ifp c7 h
    refine m_blk 11 [(0, vr 0 0)] [vi (-4)] C f_x_Mo_program_9_1 rfl ?_
    exact m_iret C Rm E e_x_Mo_program_11 (fin1 h)

