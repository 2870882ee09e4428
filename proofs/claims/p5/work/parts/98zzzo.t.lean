/-! ratios in lowest terms, often of both as functions (own work, by program) -/
abbrev g64 (x : Int) : Prop := -9223372036854775808 ≤ x ∧ x ≤ 9223372036854775807
def lc (x y : Int) : Int := if x < y then -1 else if x = y then 0 else 1
theorem lc_r {x y : Int} : g32 (lc x y) := by
  unfold lc
  by_cases h : x < y
  · rw [if_pos h]; decide
  rw [if_neg h]
  by_cases h2 : x = y
  · rw [if_pos h2]; decide
  · rw [if_neg h2]; decide
theorem lc_of {x y z : Int} (h : x < y ∧ z = -1 ∨ x = y ∧ z = 0 ∨ y < x ∧ z = 1) : z = lc x y := by
  unfold lc
  rcases h with ⟨h1, h2⟩ | ⟨h1, h2⟩ | ⟨h1, h2⟩
  · rw [if_pos h1, h2]
  · rw [if_neg (by omega), if_pos h1, h2]
  · rw [if_neg (by omega), if_neg (by omega), h2]
def f_CS_divisorOf_9 : Nat → mA → Int → Int → Int → Option (Int × mA)
  | 0, _, _, _, _ => none
  | n + 1, A, b4, b6, b8 => (if g32 b8 then (if 200 ≤ b8 then (if g64 b4 then (if (lc b4 0) ≤ 0 then (some (1, A)) else (some (b4, A))) else none) else (if g64 b6 then (if (lc b6 0) = 0 then (if g64 b4 then (if (lc b4 0) ≤ 0 then (some (1, A)) else (some (b4, A))) else none) else (if g64 b4 then (if b6 ≠ 0 then (f_CS_divisorOf_9  n A b6 (Int.tmod b4 b6) (b8 + 1)) else none) else none)) else none)) else none)
def f_CS_divisorOf (A : mA) (a0 : Int) (a1 : Int) : Option (Int × mA) := (f_CS_divisorOf_9  210 A a0 a1 0)
theorem f_hx_CS_divisorOf_0_6 : mblkB b_CS_divisorOf [(0, .lload_n 0, vi 0), (1, .lstore 4, vi 0), (3, .lload_n 2, vi 0), (4, .lstore 6, vi 0), (6, .iconst 0, vi 0), (7, .istore 8, vi 0)] = true := by decide +kernel
theorem f_hx_CS_divisorOf_9_2 : mblkB b_CS_divisorOf [(9, .iload 8, vi 0), (11, .sipush 200, vi 200)] = true := by decide +kernel
theorem e_hx_CS_divisorOf_14 : decode b_CS_divisorOf 14 = .ok (.if_icmp .ge 31, 3) := by decide +kernel
theorem f_hx_CS_divisorOf_45_2 : mblkB b_CS_divisorOf [(45, .lload 4, vi 0), (47, .lconst 0, vl 0)] = true := by decide +kernel
theorem e_hx_CS_divisorOf_48 : decode b_CS_divisorOf 48 = .ok (.lcmp, 1) := by decide +kernel
theorem e_hx_CS_divisorOf_49 : decode b_CS_divisorOf 49 = .ok (.ifCond .le 8, 3) := by decide +kernel
theorem f_hx_CS_divisorOf_57_1 : mblkB b_CS_divisorOf [(57, .lconst 1, vl 1)] = true := by decide +kernel
theorem e_hx_CS_divisorOf_58 : decode b_CS_divisorOf 58 = .ok (.lreturn, 1) := by decide +kernel
theorem f_hx_CS_divisorOf_52_2 : mblkB b_CS_divisorOf [(52, .lload 4, vi 0), (54, .goto 4, vi 58)] = true := by decide +kernel
theorem f_hx_CS_divisorOf_17_2 : mblkB b_CS_divisorOf [(17, .lload 6, vi 0), (19, .lconst 0, vl 0)] = true := by decide +kernel
theorem e_hx_CS_divisorOf_20 : decode b_CS_divisorOf 20 = .ok (.lcmp, 1) := by decide +kernel
theorem e_hx_CS_divisorOf_21 : decode b_CS_divisorOf 21 = .ok (.ifCond .eq 24, 3) := by decide +kernel
theorem f_hx_CS_divisorOf_24_2 : mblkB b_CS_divisorOf [(24, .lload 4, vi 0), (26, .lload 6, vi 0)] = true := by decide +kernel
theorem e_hx_CS_divisorOf_28 : decode b_CS_divisorOf 28 = .ok (.lrem, 1) := by decide +kernel
theorem f_hx_CS_divisorOf_29_7 : mblkB b_CS_divisorOf [(29, .lstore 9, vi 0), (31, .lload 6, vi 0), (33, .lstore 4, vi 0), (35, .lload 9, vi 0), (37, .lstore 6, vi 0), (39, .iinc 8 1, vi 1), (42, .goto (-33), vi 9)] = true := by decide +kernel
set_option maxHeartbeats 4000000 in
set_option maxRecDepth 20000 in
theorem hx_CS_divisorOf  : ∀ (l : Launch) (D : va_G) (B : Nat) (H0 : Heap) (G : tG) (A : mA) (a0 : Int) (a1 : Int)  (r9 : Int) (A9 : mA), f_CS_divisorOf  A a0 a1 = some (r9, A9) → hMet l D B H0 G y_CS_divisorOf b_CS_divisorOf 11 (some .long) 0 0 [vl a0, vl a1] A (fun v A' => v = some (vl r9) ∧ A' = A9) := by
  intro l D B H0 G A a0 a1  r9 A9 h
  refine h_met (by decide) rfl (fun g q C Rm Y E => ?_)
  have hd_9 : ∀ (n : Nat) (A : mA) (b4 : Int) (b6 : Int) (b8 : Int) , f_CS_divisorOf_9  n A b4 b6 b8 = some (r9, A9) → HM g D G q A 9 [(4, vl b4), (6, vl b6), (8, vi b8)] [] := by
    intro n
    induction n with
    | zero => intro A b4 b6 b8  h; cases h
    | succ n ih =>
      intro A b4 b6 b8  h
      unfold f_CS_divisorOf_9 at h
      refine h_blk 14 [(4, vl b4), (6, vl b6), (8, vi b8)] [vi 200, vi b8] C f_hx_CS_divisorOf_9_2 rfl ?_
      obtain ⟨c1, h⟩ := igd h
      refine h_icmp_ge (tgt := 45) C e_hx_CS_divisorOf_14 (by decide) c1 (by decide) (fun c2 => ?_) (fun c2 => ?_)
      · have h := ifp c2 h
        refine h_blk 48 [(4, vl b4), (6, vl b6), (8, vi b8)] [vl 0, vl b4] C f_hx_CS_divisorOf_45_2 rfl ?_
        obtain ⟨c3, h⟩ := igd h
        refine h_lcmp C e_hx_CS_divisorOf_48 c3 (by decide) (fun z4 hz4 => ?_)
        obtain rfl : z4 = lc b4 0 := lc_of hz4
        refine h_if_le (tgt := 57) C e_hx_CS_divisorOf_49 (by decide) lc_r (fun c5 => ?_) (fun c5 => ?_)
        · have h := ifp c5 h
          refine h_blk 58 [(4, vl b4), (6, vl b6), (8, vi b8)] [vl 1] C f_hx_CS_divisorOf_57_1 rfl ?_
          exact h_lret C Rm E e_hx_CS_divisorOf_58 (finL h)
        · have h := ifn c5 h
          refine h_blk 58 [(4, vl b4), (6, vl b6), (8, vi b8)] [vl b4] C f_hx_CS_divisorOf_52_2 rfl ?_
          exact h_lret C Rm E e_hx_CS_divisorOf_58 (finL h)
      · have h := ifn c2 h
        refine h_blk 20 [(4, vl b4), (6, vl b6), (8, vi b8)] [vl 0, vl b6] C f_hx_CS_divisorOf_17_2 rfl ?_
        obtain ⟨c6, h⟩ := igd h
        refine h_lcmp C e_hx_CS_divisorOf_20 c6 (by decide) (fun z7 hz7 => ?_)
        obtain rfl : z7 = lc b6 0 := lc_of hz7
        refine h_if_eq (tgt := 45) C e_hx_CS_divisorOf_21 (by decide) lc_r (fun c8 => ?_) (fun c8 => ?_)
        · have h := ifp c8 h
          refine h_blk 48 [(4, vl b4), (6, vl b6), (8, vi b8)] [vl 0, vl b4] C f_hx_CS_divisorOf_45_2 rfl ?_
          obtain ⟨c9, h⟩ := igd h
          refine h_lcmp C e_hx_CS_divisorOf_48 c9 (by decide) (fun z10 hz10 => ?_)
          obtain rfl : z10 = lc b4 0 := lc_of hz10
          refine h_if_le (tgt := 57) C e_hx_CS_divisorOf_49 (by decide) lc_r (fun c11 => ?_) (fun c11 => ?_)
          · have h := ifp c11 h
            refine h_blk 58 [(4, vl b4), (6, vl b6), (8, vi b8)] [vl 1] C f_hx_CS_divisorOf_57_1 rfl ?_
            exact h_lret C Rm E e_hx_CS_divisorOf_58 (finL h)
          · have h := ifn c11 h
            refine h_blk 58 [(4, vl b4), (6, vl b6), (8, vi b8)] [vl b4] C f_hx_CS_divisorOf_52_2 rfl ?_
            exact h_lret C Rm E e_hx_CS_divisorOf_58 (finL h)
        · have h := ifn c8 h
          refine h_blk 28 [(4, vl b4), (6, vl b6), (8, vi b8)] [vl b6, vl b4] C f_hx_CS_divisorOf_24_2 rfl ?_
          obtain ⟨c12, h⟩ := igd h
          obtain ⟨c13, h⟩ := igd h
          refine h_lrem C e_hx_CS_divisorOf_28 c12 c6 c13 ?_
          refine h_blk 9 [(8, vi (b8 + 1)), (6, vl (Int.tmod b4 b6)), (4, vl b6), (9, vl (Int.tmod b4 b6))] [] C f_hx_CS_divisorOf_29_7 rfl ?_
          refine h_loc [(4, vl b6), (6, vl (Int.tmod b4 b6)), (8, vi (b8 + 1))] ⟨rfl, rfl, rfl, trivial⟩ ?_
          exact ih A b6 (Int.tmod b4 b6) (b8 + 1)  h
  show HM g D G q A 0 [(0, vl a0), (2, vl a1)] []
  unfold f_CS_divisorOf at h
  refine h_blk 9 [(8, vi 0), (6, vl a1), (4, vl a0), (0, vl a0), (2, vl a1)] [] C f_hx_CS_divisorOf_0_6 rfl ?_
  refine h_loc [(4, vl a0), (6, vl a1), (8, vi 0)] ⟨rfl, rfl, rfl, trivial⟩ ?_
  exact hd_9 _ A a0 a1 0  h

def f_CS_partOf (A : mA) (a0 : Int) (a1 : Int) (a2 : Int) : Option (Int × mA) := (Option.bind (f_CS_divisorOf A a0 a1) (fun q1 => (if g64 q1.1 then (if (lc q1.1 0) = 0 then (some ((-4611686018427387904), q1.2)) else (if g32 a2 then (if a2 = 0 then (if g64 a0 then (if q1.1 ≠ 0 then (some ((Int.tdiv a0 q1.1), q1.2)) else none) else none) else (if g64 a1 then (if q1.1 ≠ 0 then (some ((Int.tdiv a1 q1.1), q1.2)) else none) else none)) else none)) else none)))
theorem f_hx_CS_partOf_0_2 : mblkB b_CS_partOf [(0, .lload_n 0, vi 0), (1, .lload_n 2, vi 0)] = true := by decide +kernel
theorem e_hx_CS_partOf_2 : decode b_CS_partOf 2 = .ok (.invokestatic 263, 3) := by decide +kernel
theorem f_hx_CS_partOf_5_3 : mblkB b_CS_partOf [(5, .lstore 5, vi 0), (7, .lload 5, vi 0), (9, .lconst 0, vl 0)] = true := by decide +kernel
theorem e_hx_CS_partOf_10 : decode b_CS_partOf 10 = .ok (.lcmp, 1) := by decide +kernel
theorem e_hx_CS_partOf_11 : decode b_CS_partOf 11 = .ok (.ifCond .ne 9, 3) := by decide +kernel
theorem f_hx_CS_partOf_20_1 : mblkB b_CS_partOf [(20, .iload 4, vi 0)] = true := by decide +kernel
theorem e_hx_CS_partOf_22 : decode b_CS_partOf 22 = .ok (.ifCond .ne 7, 3) := by decide +kernel
theorem f_hx_CS_partOf_29_2 : mblkB b_CS_partOf [(29, .lload_n 2, vi 0), (30, .lload 5, vi 0)] = true := by decide +kernel
theorem e_hx_CS_partOf_32 : decode b_CS_partOf 32 = .ok (.ldiv, 1) := by decide +kernel
theorem e_hx_CS_partOf_33 : decode b_CS_partOf 33 = .ok (.lreturn, 1) := by decide +kernel
theorem f_hx_CS_partOf_25_2 : mblkB b_CS_partOf [(25, .lload_n 0, vi 0), (26, .goto 4, vi 30)] = true := by decide +kernel
theorem f_hx_CS_partOf_30_1 : mblkB b_CS_partOf [(30, .lload 5, vi 0)] = true := by decide +kernel
theorem e_hx_CS_partOf_14 : decode b_CS_partOf 14 = .ok (.ldc2_w 143, 3) := by decide +kernel
theorem f_hx_CS_partOf_17_1 : mblkB b_CS_partOf [(17, .goto 16, vi 33)] = true := by decide +kernel
set_option maxHeartbeats 4000000 in
set_option maxRecDepth 20000 in
theorem hx_CS_partOf  : ∀ (l : Launch) (D : va_G) (B : Nat) (H0 : Heap) (G : tG) (A : mA) (a0 : Int) (a1 : Int) (a2 : Int)  (r9 : Int) (A9 : mA), f_CS_partOf  A a0 a1 a2 = some (r9, A9) → hMet l D B H0 G y_CS_partOf b_CS_partOf 7 (some .long) 1 30 [vl a0, vl a1, vi a2] A (fun v A' => v = some (vl r9) ∧ A' = A9) := by
  intro l D B H0 G A a0 a1 a2  r9 A9 h
  refine h_met (by decide) rfl (fun g q C Rm Y E => ?_)
  show HM g D G q A 0 [(0, vl a0), (2, vl a1), (4, vi a2)] []
  unfold f_CS_partOf at h
  refine h_blk 2 [(0, vl a0), (2, vl a1), (4, vi a2)] [vl a1, vl a0] C f_hx_CS_partOf_0_2 rfl ?_
  obtain ⟨q1, e2, h⟩ := obd h
  refine h_callS C Rm Y [vl a0, vl a1] [] (hx_CS_divisorOf l D B H0 G _ a0 a1 _ _ e2) cl_CS_263 e_hx_CS_partOf_2 rfl rfl rfl ⟨by decide, by decide⟩ ?_
  rintro _ _ ⟨rfl, rfl⟩
  show HM g D G q q1.2 5 [(0, vl a0), (2, vl a1), (4, vi a2)] [vl q1.1]
  refine h_blk 10 [(5, vl q1.1), (0, vl a0), (2, vl a1), (4, vi a2)] [vl 0, vl q1.1] C f_hx_CS_partOf_5_3 rfl ?_
  obtain ⟨c3, h⟩ := igd h
  refine h_lcmp C e_hx_CS_partOf_10 c3 (by decide) (fun z4 hz4 => ?_)
  obtain rfl : z4 = lc q1.1 0 := lc_of hz4
  refine h_if_ne (tgt := 20) C e_hx_CS_partOf_11 (by decide) lc_r (fun c5 => ?_) (fun c5 => ?_)
  · have h := ifn c5 h
    refine h_blk 22 [(5, vl q1.1), (0, vl a0), (2, vl a1), (4, vi a2)] [vi a2] C f_hx_CS_partOf_20_1 rfl ?_
    obtain ⟨c6, h⟩ := igd h
    refine h_if_ne (tgt := 29) C e_hx_CS_partOf_22 (by decide) c6 (fun c7 => ?_) (fun c7 => ?_)
    · have h := ifn c7 h
      refine h_blk 32 [(5, vl q1.1), (0, vl a0), (2, vl a1), (4, vi a2)] [vl q1.1, vl a1] C f_hx_CS_partOf_29_2 rfl ?_
      obtain ⟨c8, h⟩ := igd h
      obtain ⟨c9, h⟩ := igd h
      refine h_ldiv C e_hx_CS_partOf_32 c8 c3 c9 ?_
      exact h_lret C Rm E e_hx_CS_partOf_33 (finL h)
    · have h := ifp c7 h
      refine h_blk 30 [(5, vl q1.1), (0, vl a0), (2, vl a1), (4, vi a2)] [vl a0] C f_hx_CS_partOf_25_2 rfl ?_
      refine h_blk 32 [(5, vl q1.1), (0, vl a0), (2, vl a1), (4, vi a2)] [vl q1.1, vl a0] C f_hx_CS_partOf_30_1 rfl ?_
      obtain ⟨c10, h⟩ := igd h
      obtain ⟨c11, h⟩ := igd h
      refine h_ldiv C e_hx_CS_partOf_32 c10 c3 c11 ?_
      exact h_lret C Rm E e_hx_CS_partOf_33 (finL h)
  · have h := ifp c5 h
    refine h_ldc2 C (-4611686018427387904) e_hx_CS_partOf_14 ld_CS_143 (by decide) ?_
    refine h_blk 33 [(5, vl q1.1), (0, vl a0), (2, vl a1), (4, vi a2)] [vl (-4611686018427387904)] C f_hx_CS_partOf_17_1 rfl ?_
    exact h_lret C Rm E e_hx_CS_partOf_33 (finL h)

def f_CS_isPart (A : mA) (a0 : Int) : Option (Int × mA) := (if g32 a0 then (if a0 = 0 then (some (1, A)) else (if a0 = 1 then (some (1, A)) else (some (0, A)))) else none)
theorem f_hx_CS_isPart_0_1 : mblkB b_CS_isPart [(0, .iload_n 0, vi 0)] = true := by decide +kernel
theorem e_hx_CS_isPart_1 : decode b_CS_isPart 1 = .ok (.ifCond .eq 8, 3) := by decide +kernel
theorem f_hx_CS_isPart_9_2 : mblkB b_CS_isPart [(9, .iconst 1, vi 1), (10, .goto 4, vi 14)] = true := by decide +kernel
theorem e_hx_CS_isPart_14 : decode b_CS_isPart 14 = .ok (.ireturn, 1) := by decide +kernel
theorem f_hx_CS_isPart_4_2 : mblkB b_CS_isPart [(4, .iload_n 0, vi 0), (5, .iconst 1, vi 1)] = true := by decide +kernel
theorem e_hx_CS_isPart_6 : decode b_CS_isPart 6 = .ok (.if_icmp .ne 7, 3) := by decide +kernel
theorem f_hx_CS_isPart_13_1 : mblkB b_CS_isPart [(13, .iconst 0, vi 0)] = true := by decide +kernel
set_option maxHeartbeats 4000000 in
set_option maxRecDepth 20000 in
theorem hx_CS_isPart  : ∀ (l : Launch) (D : va_G) (B : Nat) (H0 : Heap) (G : tG) (A : mA) (a0 : Int)  (r9 : Int) (A9 : mA), f_CS_isPart  A a0 = some (r9, A9) → hMet l D B H0 G y_CS_isPart b_CS_isPart 1 (some .boolean) 0 0 [vi a0] A (fun v A' => v = some (vi r9) ∧ A' = A9) := by
  intro l D B H0 G A a0  r9 A9 h
  refine h_met (by decide) rfl (fun g q C Rm Y E => ?_)
  show HM g D G q A 0 [(0, vi a0)] []
  unfold f_CS_isPart at h
  refine h_blk 1 [(0, vi a0)] [vi a0] C f_hx_CS_isPart_0_1 rfl ?_
  obtain ⟨c1, h⟩ := igd h
  refine h_if_eq (tgt := 9) C e_hx_CS_isPart_1 (by decide) c1 (fun c2 => ?_) (fun c2 => ?_)
  · have h := ifp c2 h
    refine h_blk 14 [(0, vi a0)] [vi 1] C f_hx_CS_isPart_9_2 rfl ?_
    exact h_zret C Rm E (Or.inr rfl) e_hx_CS_isPart_14 (fin1 h)
  · have h := ifn c2 h
    refine h_blk 6 [(0, vi a0)] [vi 1, vi a0] C f_hx_CS_isPart_4_2 rfl ?_
    refine h_icmp_ne (tgt := 13) C e_hx_CS_isPart_6 (by decide) c1 (by decide) (fun c3 => ?_) (fun c3 => ?_)
    · have h := ifn c3 h
      refine h_blk 14 [(0, vi a0)] [vi 0] C f_hx_CS_isPart_13_1 rfl ?_
      exact h_zret C Rm E (Or.inl rfl) e_hx_CS_isPart_14 (fin1 h)
    · have h := ifp c3 h
      refine h_blk 14 [(0, vi a0)] [vi 1] C f_hx_CS_isPart_9_2 rfl ?_
      exact h_zret C Rm E (Or.inr rfl) e_hx_CS_isPart_14 (fin1 h)

def f_CS_often_55 : Nat → mA → Nat → Int → Int → Int → Int → Int → Int → Int → Int → Int → Option (Int × mA)
  | 0, _, _, _, _, _, _, _, _, _, _, _ => none
  | n + 1, A, b0, b1, b2, b3, b4, b5, b6, b7, b8, b9 => (if g32 b9 then if g32 b3 then (if b3 ≤ b9 then (if g32 b7 then (if b7 = 0 then (some ((-1), A)) else (if g32 b8 then (Option.bind (f_CS_partOf A b8 b7 b6) (fun q7 => (some (q7.1, q7.2)))) else none)) else none) else (if (0 ≤ b1 ∧ b1 < ((6 : Nat) : Int)) then (if 0 ≤ (A 21 ((A 8 b0 2).toNat) b1.toNat) then (Option.bind (f_Walk_comingBy A ((A 8 b0 10).toNat) ((A 21 ((A 8 b0 2).toNat) b1.toNat).toNat) (A 8 b0 4) (b2 + b9)) (fun q14 => (if g32 q14.1 then (if q14.1 = (-1) then (f_CS_often_55  n q14.2 b0 b1 b2 b3 b4 b5 b6 b7 b8 (b9 + 1)) else (Option.bind (f_CS_digitAt q14.2 q14.1 b4) (fun q18 => (if g32 q18.1 then if g32 b5 then (if q18.1 = b5 then (f_CS_often_55  n q18.2 b0 b1 b2 b3 b4 b5 b6 (b7 + 1) (b8 + 1) (b9 + 1)) else (f_CS_often_55  n q18.2 b0 b1 b2 b3 b4 b5 b6 (b7 + 1) (b8 + 0) (b9 + 1))) else none else none)))) else none))) else none) else none)) else none else none)
def f_CS_often (A : mA) (o : Nat) (a0 : Int) (a1 : Int) (a2 : Int) (a3 : Int) (a4 : Int) (a5 : Int) : Option (Int × mA) := (Option.bind (f_CS_isProgram A o a0) (fun q23 => (if g32 q23.1 then (if q23.1 = 0 then (some ((-2), q23.2)) else (if g32 a2 then (if a2 < 1 then (some ((-2), q23.2)) else (if 20 < a2 then (some ((-2), q23.2)) else (Option.bind (f_CS_isName q23.2 a3) (fun q30 => (if g32 q30.1 then (if q30.1 = 0 then (some ((-2), q30.2)) else (Option.bind (f_CS_isValue q30.2 a4) (fun q34 => (if g32 q34.1 then (if q34.1 = 0 then (some ((-2), q34.2)) else (Option.bind (f_CS_isPart q34.2 a5) (fun q38 => (if g32 q38.1 then (if q38.1 = 0 then (some ((-2), q38.2)) else (f_CS_often_55  30 q38.2 o a0 a1 a2 a3 a4 a5 0 0 0)) else none)))) else none)))) else none))))) else none)) else none)))
theorem f_hx_CS_often_0_2 : mblkB b_CS_often [(0, .aload_n 0, vi 0), (1, .iload_n 1, vi 0)] = true := by decide +kernel
theorem e_hx_CS_often_2 : decode b_CS_often 2 = .ok (.invokevirtual 94, 3) := by decide +kernel
theorem e_hx_CS_often_5 : decode b_CS_often 5 = .ok (.ifCond .eq 38, 3) := by decide +kernel
theorem f_hx_CS_often_43_1 : mblkB b_CS_often [(43, .bipush (-2), vi (-2))] = true := by decide +kernel
theorem e_hx_CS_often_45 : decode b_CS_often 45 = .ok (.ireturn, 1) := by decide +kernel
theorem f_hx_CS_often_8_2 : mblkB b_CS_often [(8, .iload_n 3, vi 0), (9, .iconst 1, vi 1)] = true := by decide +kernel
theorem e_hx_CS_often_10 : decode b_CS_often 10 = .ok (.if_icmp .lt 33, 3) := by decide +kernel
theorem f_hx_CS_often_13_2 : mblkB b_CS_often [(13, .iload_n 3, vi 0), (14, .bipush 20, vi 20)] = true := by decide +kernel
theorem e_hx_CS_often_16 : decode b_CS_often 16 = .ok (.if_icmp .gt 27, 3) := by decide +kernel
theorem f_hx_CS_often_19_1 : mblkB b_CS_often [(19, .iload 4, vi 0)] = true := by decide +kernel
theorem e_hx_CS_often_21 : decode b_CS_often 21 = .ok (.invokestatic 77, 3) := by decide +kernel
theorem e_hx_CS_often_24 : decode b_CS_often 24 = .ok (.ifCond .eq 19, 3) := by decide +kernel
theorem f_hx_CS_often_27_1 : mblkB b_CS_often [(27, .iload 5, vi 0)] = true := by decide +kernel
theorem e_hx_CS_often_29 : decode b_CS_often 29 = .ok (.invokestatic 80, 3) := by decide +kernel
theorem e_hx_CS_often_32 : decode b_CS_often 32 = .ok (.ifCond .eq 11, 3) := by decide +kernel
theorem f_hx_CS_often_35_1 : mblkB b_CS_often [(35, .iload 6, vi 0)] = true := by decide +kernel
theorem e_hx_CS_often_37 : decode b_CS_often 37 = .ok (.invokestatic 140, 3) := by decide +kernel
theorem e_hx_CS_often_40 : decode b_CS_often 40 = .ok (.ifCond .ne 6, 3) := by decide +kernel
theorem f_hx_CS_often_46_6 : mblkB b_CS_often [(46, .iconst 0, vi 0), (47, .istore 7, vi 0), (49, .iconst 0, vi 0), (50, .istore 8, vi 0), (52, .iconst 0, vi 0), (53, .istore 9, vi 0)] = true := by decide +kernel
theorem f_hx_CS_often_55_2 : mblkB b_CS_often [(55, .iload 9, vi 0), (57, .iload_n 3, vi 0)] = true := by decide +kernel
theorem e_hx_CS_often_58 : decode b_CS_often 58 = .ok (.if_icmp .ge 63, 3) := by decide +kernel
theorem f_hx_CS_often_121_1 : mblkB b_CS_often [(121, .iload 7, vi 0)] = true := by decide +kernel
theorem e_hx_CS_often_123 : decode b_CS_often 123 = .ok (.ifCond .ne 7, 3) := by decide +kernel
theorem f_hx_CS_often_130_1 : mblkB b_CS_often [(130, .iload 8, vi 0)] = true := by decide +kernel
theorem e_hx_CS_often_132 : decode b_CS_often 132 = .ok (.i2l, 1) := by decide +kernel
theorem f_hx_CS_often_133_1 : mblkB b_CS_often [(133, .iload 7, vi 0)] = true := by decide +kernel
theorem e_hx_CS_often_135 : decode b_CS_often 135 = .ok (.i2l, 1) := by decide +kernel
theorem f_hx_CS_often_136_1 : mblkB b_CS_often [(136, .iload 6, vi 0)] = true := by decide +kernel
theorem e_hx_CS_often_138 : decode b_CS_often 138 = .ok (.invokestatic 151, 3) := by decide +kernel
theorem f_hx_CS_often_141_1 : mblkB b_CS_often [(141, .l2i, vi 0)] = true := by decide +kernel
theorem e_hx_CS_often_142 : decode b_CS_often 142 = .ok (.ireturn, 1) := by decide +kernel
theorem f_hx_CS_often_126_2 : mblkB b_CS_often [(126, .iconst (-1), vi (-1)), (127, .goto 15, vi 142)] = true := by decide +kernel
theorem f_hx_CS_often_61_1 : mblkB b_CS_often [(61, .aload_n 0, vi 0)] = true := by decide +kernel
theorem e_hx_CS_often_62 : decode b_CS_often 62 = .ok (.getfield 35, 3) := by decide +kernel
theorem f_hx_CS_often_65_1 : mblkB b_CS_often [(65, .aload_n 0, vi 0)] = true := by decide +kernel
theorem e_hx_CS_often_66 : decode b_CS_often 66 = .ok (.getfield 15, 3) := by decide +kernel
theorem f_hx_CS_often_69_1 : mblkB b_CS_often [(69, .iload_n 1, vi 0)] = true := by decide +kernel
theorem e_hx_CS_often_70 : decode b_CS_often 70 = .ok (.aaload, 1) := by decide +kernel
theorem f_hx_CS_often_71_1 : mblkB b_CS_often [(71, .aload_n 0, vi 0)] = true := by decide +kernel
theorem e_hx_CS_often_72 : decode b_CS_often 72 = .ok (.getfield 83, 3) := by decide +kernel
theorem f_hx_CS_often_75_3 : mblkB b_CS_often [(75, .iload_n 2, vi 0), (76, .iload 9, vi 0), (78, .iadd, vi 0)] = true := by decide +kernel
theorem e_hx_CS_often_79 : decode b_CS_often 79 = .ok (.invokevirtual 197, 3) := by decide +kernel
theorem f_hx_CS_often_82_3 : mblkB b_CS_often [(82, .istore 10, vi 0), (84, .iload 10, vi 0), (86, .iconst (-1), vi (-1))] = true := by decide +kernel
theorem e_hx_CS_often_87 : decode b_CS_often 87 = .ok (.if_icmp .eq 28, 3) := by decide +kernel
theorem f_hx_CS_often_115_2 : mblkB b_CS_often [(115, .iinc 9 1, vi 1), (118, .goto (-63), vi 55)] = true := by decide +kernel
theorem f_hx_CS_often_90_4 : mblkB b_CS_often [(90, .iinc 7 1, vi 1), (93, .iload 8, vi 0), (95, .iload 10, vi 0), (97, .iload 4, vi 0)] = true := by decide +kernel
theorem e_hx_CS_often_99 : decode b_CS_often 99 = .ok (.invokestatic 86, 3) := by decide +kernel
theorem f_hx_CS_often_102_1 : mblkB b_CS_often [(102, .iload 5, vi 0)] = true := by decide +kernel
theorem e_hx_CS_often_104 : decode b_CS_often 104 = .ok (.if_icmp .ne 7, 3) := by decide +kernel
theorem f_hx_CS_often_111_5 : mblkB b_CS_often [(111, .iconst 0, vi 0), (112, .iadd, vi 0), (113, .istore 8, vi 0), (115, .iinc 9 1, vi 1), (118, .goto (-63), vi 55)] = true := by decide +kernel
theorem f_hx_CS_often_107_2 : mblkB b_CS_often [(107, .iconst 1, vi 1), (108, .goto 4, vi 112)] = true := by decide +kernel
theorem f_hx_CS_often_112_4 : mblkB b_CS_often [(112, .iadd, vi 0), (113, .istore 8, vi 0), (115, .iinc 9 1, vi 1), (118, .goto (-63), vi 55)] = true := by decide +kernel
set_option maxHeartbeats 4000000 in
set_option maxRecDepth 20000 in
theorem hx_CS_often  : ∀ (l : Launch) (D : va_G) (B : Nat) (H0 : Heap) (G : tG) (A : mA) (o : Nat) (a0 : Int) (a1 : Int) (a2 : Int) (a3 : Int) (a4 : Int) (a5 : Int) (h_o : G o = some 8)  (r9 : Int) (A9 : mA), f_CS_often  A o a0 a1 a2 a3 a4 a5 = some (r9, A9) → hMet l D B H0 G y_CS_often b_CS_often 11 (some .int) 274 8211 [vr 8 o, vi a0, vi a1, vi a2, vi a3, vi a4, vi a5] A (fun v A' => v = some (vi r9) ∧ A' = A9) := by
  intro l D B H0 G A o a0 a1 a2 a3 a4 a5 h_o r9 A9 h
  refine h_met (by decide) rfl (fun g q C Rm Y E => ?_)
  have hd_55 : ∀ (n : Nat) (A : mA) (b0 : Nat) (b1 : Int) (b2 : Int) (b3 : Int) (b4 : Int) (b5 : Int) (b6 : Int) (b7 : Int) (b8 : Int) (b9 : Int) , G b0 = some 8 → f_CS_often_55  n A b0 b1 b2 b3 b4 b5 b6 b7 b8 b9 = some (r9, A9) → HM g D G q A 55 [(0, vr 8 b0), (1, vi b1), (2, vi b2), (3, vi b3), (4, vi b4), (5, vi b5), (6, vi b6), (7, vi b7), (8, vi b8), (9, vi b9)] [] := by
    intro n
    induction n with
    | zero => intro A b0 b1 b2 b3 b4 b5 b6 b7 b8 b9 h_b0 h; cases h
    | succ n ih =>
      intro A b0 b1 b2 b3 b4 b5 b6 b7 b8 b9 h_b0 h
      unfold f_CS_often_55 at h
      refine h_blk 58 [(0, vr 8 b0), (1, vi b1), (2, vi b2), (3, vi b3), (4, vi b4), (5, vi b5), (6, vi b6), (7, vi b7), (8, vi b8), (9, vi b9)] [vi b3, vi b9] C f_hx_CS_often_55_2 rfl ?_
      obtain ⟨c1, h⟩ := igd h
      obtain ⟨c2, h⟩ := igd h
      refine h_icmp_ge (tgt := 121) C e_hx_CS_often_58 (by decide) c1 c2 (fun c3 => ?_) (fun c3 => ?_)
      · have h := ifp c3 h
        refine h_blk 123 [(0, vr 8 b0), (1, vi b1), (2, vi b2), (3, vi b3), (4, vi b4), (5, vi b5), (6, vi b6), (7, vi b7), (8, vi b8), (9, vi b9)] [vi b7] C f_hx_CS_often_121_1 rfl ?_
        obtain ⟨c4, h⟩ := igd h
        refine h_if_ne (tgt := 130) C e_hx_CS_often_123 (by decide) c4 (fun c5 => ?_) (fun c5 => ?_)
        · have h := ifn c5 h
          refine h_blk 132 [(0, vr 8 b0), (1, vi b1), (2, vi b2), (3, vi b3), (4, vi b4), (5, vi b5), (6, vi b6), (7, vi b7), (8, vi b8), (9, vi b9)] [vi b8] C f_hx_CS_often_130_1 rfl ?_
          obtain ⟨c6, h⟩ := igd h
          refine h_i2l C e_hx_CS_often_132 c6 ?_
          refine h_blk 135 [(0, vr 8 b0), (1, vi b1), (2, vi b2), (3, vi b3), (4, vi b4), (5, vi b5), (6, vi b6), (7, vi b7), (8, vi b8), (9, vi b9)] [vi b7, vl b8] C f_hx_CS_often_133_1 rfl ?_
          refine h_i2l C e_hx_CS_often_135 c4 ?_
          refine h_blk 138 [(0, vr 8 b0), (1, vi b1), (2, vi b2), (3, vi b3), (4, vi b4), (5, vi b5), (6, vi b6), (7, vi b7), (8, vi b8), (9, vi b9)] [vi b6, vl b7, vl b8] C f_hx_CS_often_136_1 rfl ?_
          obtain ⟨q7, e8, h⟩ := obd h
          refine h_callS C Rm Y [vl b8, vl b7, vi b6] [] (hx_CS_partOf l D B H0 G _ b8 b7 b6 _ _ e8) cl_CS_151 e_hx_CS_often_138 rfl rfl rfl ⟨by decide, by decide⟩ ?_
          rintro _ _ ⟨rfl, rfl⟩
          show HM g D G q q7.2 141 [(0, vr 8 b0), (1, vi b1), (2, vi b2), (3, vi b3), (4, vi b4), (5, vi b5), (6, vi b6), (7, vi b7), (8, vi b8), (9, vi b9)] [vl q7.1]
          refine h_blk 142 [(0, vr 8 b0), (1, vi b1), (2, vi b2), (3, vi b3), (4, vi b4), (5, vi b5), (6, vi b6), (7, vi b7), (8, vi b8), (9, vi b9)] [vi q7.1] C f_hx_CS_often_141_1 rfl ?_
          exact h_iret C Rm E e_hx_CS_often_142 (fin1 h)
        · have h := ifp c5 h
          refine h_blk 142 [(0, vr 8 b0), (1, vi b1), (2, vi b2), (3, vi b3), (4, vi b4), (5, vi b5), (6, vi b6), (7, vi b7), (8, vi b8), (9, vi b9)] [vi (-1)] C f_hx_CS_often_126_2 rfl ?_
          exact h_iret C Rm E e_hx_CS_often_142 (fin1 h)
      · have h := ifn c3 h
        refine h_blk 62 [(0, vr 8 b0), (1, vi b1), (2, vi b2), (3, vi b3), (4, vi b4), (5, vi b5), (6, vi b6), (7, vi b7), (8, vi b8), (9, vi b9)] [vr 8 b0] C f_hx_CS_often_61_1 rfl ?_
        refine h_getr4 C e_hx_CS_often_62 fg_CS_35 h_b0 rfl rfl rfl rfl (fun g9 => ?_)
        refine h_blk 66 [(0, vr 8 b0), (1, vi b1), (2, vi b2), (3, vi b3), (4, vi b4), (5, vi b5), (6, vi b6), (7, vi b7), (8, vi b8), (9, vi b9)] [vr 8 b0, vr 7 ((A 8 b0 10).toNat)] C f_hx_CS_often_65_1 rfl ?_
        refine h_getr4 C e_hx_CS_often_66 fg_CS_15 h_b0 rfl rfl rfl rfl (fun g10 => ?_)
        refine h_blk 70 [(0, vr 8 b0), (1, vi b1), (2, vi b2), (3, vi b3), (4, vi b4), (5, vi b5), (6, vi b6), (7, vi b7), (8, vi b8), (9, vi b9)] [vi b1, vr 21 ((A 8 b0 2).toNat), vr 7 ((A 8 b0 10).toNat)] C f_hx_CS_often_69_1 rfl ?_
        obtain ⟨c11, h⟩ := igd h
        obtain ⟨c12, h⟩ := igd h
        refine h_aald5 C e_hx_CS_often_70 rfl rfl g10 rfl rfl rfl rfl (by decide) c11.1 c11.2 c12 (fun g13 => ?_)
        refine h_blk 72 [(0, vr 8 b0), (1, vi b1), (2, vi b2), (3, vi b3), (4, vi b4), (5, vi b5), (6, vi b6), (7, vi b7), (8, vi b8), (9, vi b9)] [vr 8 b0, vr 2 ((A 21 ((A 8 b0 2).toNat) b1.toNat).toNat), vr 7 ((A 8 b0 10).toNat)] C f_hx_CS_often_71_1 rfl ?_
        refine h_geti C e_hx_CS_often_72 fg_CS_83 h_b0 rfl rfl rfl (A 8 b0 4) rfl ?_
        refine h_blk 79 [(0, vr 8 b0), (1, vi b1), (2, vi b2), (3, vi b3), (4, vi b4), (5, vi b5), (6, vi b6), (7, vi b7), (8, vi b8), (9, vi b9)] [vi (b2 + b9), vi (A 8 b0 4), vr 2 ((A 21 ((A 8 b0 2).toNat) b1.toNat).toNat), vr 7 ((A 8 b0 10).toNat)] C f_hx_CS_often_75_3 rfl ?_
        obtain ⟨q14, e15, h⟩ := obd h
        refine h_callV C Rm Y [vr 2 ((A 21 ((A 8 b0 2).toNat) b1.toNat).toNat), vi (A 8 b0 4), vi (b2 + b9)] [] (hx_Walk_comingBy l D B H0 G _ ((A 8 b0 10).toNat) ((A 21 ((A 8 b0 2).toNat) b1.toNat).toNat) (A 8 b0 4) (b2 + b9) g9 g13 _ _ e15) cl_CS_197 g9 rfl rfl rfl e_hx_CS_often_79 rfl rfl rfl ⟨by decide, by decide⟩ ?_
        rintro _ _ ⟨rfl, rfl⟩
        show HM g D G q q14.2 82 [(0, vr 8 b0), (1, vi b1), (2, vi b2), (3, vi b3), (4, vi b4), (5, vi b5), (6, vi b6), (7, vi b7), (8, vi b8), (9, vi b9)] [vi q14.1]
        refine h_blk 87 [(10, vi q14.1), (0, vr 8 b0), (1, vi b1), (2, vi b2), (3, vi b3), (4, vi b4), (5, vi b5), (6, vi b6), (7, vi b7), (8, vi b8), (9, vi b9)] [vi (-1), vi q14.1] C f_hx_CS_often_82_3 rfl ?_
        obtain ⟨c16, h⟩ := igd h
        refine h_icmp_eq (tgt := 115) C e_hx_CS_often_87 (by decide) c16 (by decide) (fun c17 => ?_) (fun c17 => ?_)
        · have h := ifp c17 h
          refine h_blk 55 [(9, vi (b9 + 1)), (10, vi q14.1), (0, vr 8 b0), (1, vi b1), (2, vi b2), (3, vi b3), (4, vi b4), (5, vi b5), (6, vi b6), (7, vi b7), (8, vi b8)] [] C f_hx_CS_often_115_2 rfl ?_
          refine h_loc [(0, vr 8 b0), (1, vi b1), (2, vi b2), (3, vi b3), (4, vi b4), (5, vi b5), (6, vi b6), (7, vi b7), (8, vi b8), (9, vi (b9 + 1))] ⟨rfl, rfl, rfl, rfl, rfl, rfl, rfl, rfl, rfl, rfl, trivial⟩ ?_
          exact ih q14.2 b0 b1 b2 b3 b4 b5 b6 b7 b8 (b9 + 1) (h_b0) h
        · have h := ifn c17 h
          refine h_blk 99 [(7, vi (b7 + 1)), (10, vi q14.1), (0, vr 8 b0), (1, vi b1), (2, vi b2), (3, vi b3), (4, vi b4), (5, vi b5), (6, vi b6), (8, vi b8), (9, vi b9)] [vi b4, vi q14.1, vi b8] C f_hx_CS_often_90_4 rfl ?_
          obtain ⟨q18, e19, h⟩ := obd h
          refine h_callS C Rm Y [vi q14.1, vi b4] [vi b8] (hx_CS_digitAt l D B H0 G _ q14.1 b4 _ _ e19) cl_CS_86 e_hx_CS_often_99 rfl rfl rfl ⟨by decide, by decide⟩ ?_
          rintro _ _ ⟨rfl, rfl⟩
          show HM g D G q q18.2 102 [(7, vi (b7 + 1)), (10, vi q14.1), (0, vr 8 b0), (1, vi b1), (2, vi b2), (3, vi b3), (4, vi b4), (5, vi b5), (6, vi b6), (8, vi b8), (9, vi b9)] [vi q18.1, vi b8]
          refine h_blk 104 [(7, vi (b7 + 1)), (10, vi q14.1), (0, vr 8 b0), (1, vi b1), (2, vi b2), (3, vi b3), (4, vi b4), (5, vi b5), (6, vi b6), (8, vi b8), (9, vi b9)] [vi b5, vi q18.1, vi b8] C f_hx_CS_often_102_1 rfl ?_
          obtain ⟨c20, h⟩ := igd h
          obtain ⟨c21, h⟩ := igd h
          refine h_icmp_ne (tgt := 111) C e_hx_CS_often_104 (by decide) c20 c21 (fun c22 => ?_) (fun c22 => ?_)
          · have h := ifn c22 h
            refine h_blk 55 [(9, vi (b9 + 1)), (8, vi (b8 + 0)), (7, vi (b7 + 1)), (10, vi q14.1), (0, vr 8 b0), (1, vi b1), (2, vi b2), (3, vi b3), (4, vi b4), (5, vi b5), (6, vi b6)] [] C f_hx_CS_often_111_5 rfl ?_
            refine h_loc [(0, vr 8 b0), (1, vi b1), (2, vi b2), (3, vi b3), (4, vi b4), (5, vi b5), (6, vi b6), (7, vi (b7 + 1)), (8, vi (b8 + 0)), (9, vi (b9 + 1))] ⟨rfl, rfl, rfl, rfl, rfl, rfl, rfl, rfl, rfl, rfl, trivial⟩ ?_
            exact ih q18.2 b0 b1 b2 b3 b4 b5 b6 (b7 + 1) (b8 + 0) (b9 + 1) (h_b0) h
          · have h := ifp c22 h
            refine h_blk 112 [(7, vi (b7 + 1)), (10, vi q14.1), (0, vr 8 b0), (1, vi b1), (2, vi b2), (3, vi b3), (4, vi b4), (5, vi b5), (6, vi b6), (8, vi b8), (9, vi b9)] [vi 1, vi b8] C f_hx_CS_often_107_2 rfl ?_
            refine h_blk 55 [(9, vi (b9 + 1)), (8, vi (b8 + 1)), (7, vi (b7 + 1)), (10, vi q14.1), (0, vr 8 b0), (1, vi b1), (2, vi b2), (3, vi b3), (4, vi b4), (5, vi b5), (6, vi b6)] [] C f_hx_CS_often_112_4 rfl ?_
            refine h_loc [(0, vr 8 b0), (1, vi b1), (2, vi b2), (3, vi b3), (4, vi b4), (5, vi b5), (6, vi b6), (7, vi (b7 + 1)), (8, vi (b8 + 1)), (9, vi (b9 + 1))] ⟨rfl, rfl, rfl, rfl, rfl, rfl, rfl, rfl, rfl, rfl, trivial⟩ ?_
            exact ih q18.2 b0 b1 b2 b3 b4 b5 b6 (b7 + 1) (b8 + 1) (b9 + 1) (h_b0) h
  show HM g D G q A 0 [(0, vr 8 o), (1, vi a0), (2, vi a1), (3, vi a2), (4, vi a3), (5, vi a4), (6, vi a5)] []
  unfold f_CS_often at h
  refine h_blk 2 [(0, vr 8 o), (1, vi a0), (2, vi a1), (3, vi a2), (4, vi a3), (5, vi a4), (6, vi a5)] [vi a0, vr 8 o] C f_hx_CS_often_0_2 rfl ?_
  obtain ⟨q23, e24, h⟩ := obd h
  refine h_callV C Rm Y [vi a0] [] (hx_CS_isProgram l D B H0 G _ o a0 h_o _ _ e24) cl_CS_94 h_o rfl rfl rfl e_hx_CS_often_2 rfl rfl rfl ⟨by decide, by decide⟩ ?_
  rintro _ _ ⟨rfl, rfl⟩
  show HM g D G q q23.2 5 [(0, vr 8 o), (1, vi a0), (2, vi a1), (3, vi a2), (4, vi a3), (5, vi a4), (6, vi a5)] [vi q23.1]
  obtain ⟨c25, h⟩ := igd h
  refine h_if_eq (tgt := 43) C e_hx_CS_often_5 (by decide) c25 (fun c26 => ?_) (fun c26 => ?_)
  · have h := ifp c26 h
    refine h_blk 45 [(0, vr 8 o), (1, vi a0), (2, vi a1), (3, vi a2), (4, vi a3), (5, vi a4), (6, vi a5)] [vi (-2)] C f_hx_CS_often_43_1 rfl ?_
    exact h_iret C Rm E e_hx_CS_often_45 (fin1 h)
  · have h := ifn c26 h
    refine h_blk 10 [(0, vr 8 o), (1, vi a0), (2, vi a1), (3, vi a2), (4, vi a3), (5, vi a4), (6, vi a5)] [vi 1, vi a2] C f_hx_CS_often_8_2 rfl ?_
    obtain ⟨c27, h⟩ := igd h
    refine h_icmp_lt (tgt := 43) C e_hx_CS_often_10 (by decide) c27 (by decide) (fun c28 => ?_) (fun c28 => ?_)
    · have h := ifp c28 h
      refine h_blk 45 [(0, vr 8 o), (1, vi a0), (2, vi a1), (3, vi a2), (4, vi a3), (5, vi a4), (6, vi a5)] [vi (-2)] C f_hx_CS_often_43_1 rfl ?_
      exact h_iret C Rm E e_hx_CS_often_45 (fin1 h)
    · have h := ifn c28 h
      refine h_blk 16 [(0, vr 8 o), (1, vi a0), (2, vi a1), (3, vi a2), (4, vi a3), (5, vi a4), (6, vi a5)] [vi 20, vi a2] C f_hx_CS_often_13_2 rfl ?_
      refine h_icmp_gt (tgt := 43) C e_hx_CS_often_16 (by decide) c27 (by decide) (fun c29 => ?_) (fun c29 => ?_)
      · have h := ifp c29 h
        refine h_blk 45 [(0, vr 8 o), (1, vi a0), (2, vi a1), (3, vi a2), (4, vi a3), (5, vi a4), (6, vi a5)] [vi (-2)] C f_hx_CS_often_43_1 rfl ?_
        exact h_iret C Rm E e_hx_CS_often_45 (fin1 h)
      · have h := ifn c29 h
        refine h_blk 21 [(0, vr 8 o), (1, vi a0), (2, vi a1), (3, vi a2), (4, vi a3), (5, vi a4), (6, vi a5)] [vi a3] C f_hx_CS_often_19_1 rfl ?_
        obtain ⟨q30, e31, h⟩ := obd h
        refine h_callS C Rm Y [vi a3] [] (hx_CS_isName l D B H0 G _ a3 _ _ e31) cl_CS_77 e_hx_CS_often_21 rfl rfl rfl ⟨by decide, by decide⟩ ?_
        rintro _ _ ⟨rfl, rfl⟩
        show HM g D G q q30.2 24 [(0, vr 8 o), (1, vi a0), (2, vi a1), (3, vi a2), (4, vi a3), (5, vi a4), (6, vi a5)] [vi q30.1]
        obtain ⟨c32, h⟩ := igd h
        refine h_if_eq (tgt := 43) C e_hx_CS_often_24 (by decide) c32 (fun c33 => ?_) (fun c33 => ?_)
        · have h := ifp c33 h
          refine h_blk 45 [(0, vr 8 o), (1, vi a0), (2, vi a1), (3, vi a2), (4, vi a3), (5, vi a4), (6, vi a5)] [vi (-2)] C f_hx_CS_often_43_1 rfl ?_
          exact h_iret C Rm E e_hx_CS_often_45 (fin1 h)
        · have h := ifn c33 h
          refine h_blk 29 [(0, vr 8 o), (1, vi a0), (2, vi a1), (3, vi a2), (4, vi a3), (5, vi a4), (6, vi a5)] [vi a4] C f_hx_CS_often_27_1 rfl ?_
          obtain ⟨q34, e35, h⟩ := obd h
          refine h_callS C Rm Y [vi a4] [] (hx_CS_isValue l D B H0 G _ a4 _ _ e35) cl_CS_80 e_hx_CS_often_29 rfl rfl rfl ⟨by decide, by decide⟩ ?_
          rintro _ _ ⟨rfl, rfl⟩
          show HM g D G q q34.2 32 [(0, vr 8 o), (1, vi a0), (2, vi a1), (3, vi a2), (4, vi a3), (5, vi a4), (6, vi a5)] [vi q34.1]
          obtain ⟨c36, h⟩ := igd h
          refine h_if_eq (tgt := 43) C e_hx_CS_often_32 (by decide) c36 (fun c37 => ?_) (fun c37 => ?_)
          · have h := ifp c37 h
            refine h_blk 45 [(0, vr 8 o), (1, vi a0), (2, vi a1), (3, vi a2), (4, vi a3), (5, vi a4), (6, vi a5)] [vi (-2)] C f_hx_CS_often_43_1 rfl ?_
            exact h_iret C Rm E e_hx_CS_often_45 (fin1 h)
          · have h := ifn c37 h
            refine h_blk 37 [(0, vr 8 o), (1, vi a0), (2, vi a1), (3, vi a2), (4, vi a3), (5, vi a4), (6, vi a5)] [vi a5] C f_hx_CS_often_35_1 rfl ?_
            obtain ⟨q38, e39, h⟩ := obd h
            refine h_callS C Rm Y [vi a5] [] (hx_CS_isPart l D B H0 G _ a5 _ _ e39) cl_CS_140 e_hx_CS_often_37 rfl rfl rfl ⟨by decide, by decide⟩ ?_
            rintro _ _ ⟨rfl, rfl⟩
            show HM g D G q q38.2 40 [(0, vr 8 o), (1, vi a0), (2, vi a1), (3, vi a2), (4, vi a3), (5, vi a4), (6, vi a5)] [vi q38.1]
            obtain ⟨c40, h⟩ := igd h
            refine h_if_ne (tgt := 46) C e_hx_CS_often_40 (by decide) c40 (fun c41 => ?_) (fun c41 => ?_)
            · have h := ifn c41 h
              refine h_blk 55 [(9, vi 0), (8, vi 0), (7, vi 0), (0, vr 8 o), (1, vi a0), (2, vi a1), (3, vi a2), (4, vi a3), (5, vi a4), (6, vi a5)] [] C f_hx_CS_often_46_6 rfl ?_
              refine h_loc [(0, vr 8 o), (1, vi a0), (2, vi a1), (3, vi a2), (4, vi a3), (5, vi a4), (6, vi a5), (7, vi 0), (8, vi 0), (9, vi 0)] ⟨rfl, rfl, rfl, rfl, rfl, rfl, rfl, rfl, rfl, rfl, trivial⟩ ?_
              exact hd_55 _ q38.2 o a0 a1 a2 a3 a4 a5 0 0 0 (h_o) h
            · have h := ifp c41 h
              refine h_blk 45 [(0, vr 8 o), (1, vi a0), (2, vi a1), (3, vi a2), (4, vi a3), (5, vi a4), (6, vi a5)] [vi (-2)] C f_hx_CS_often_43_1 rfl ?_
              exact h_iret C Rm E e_hx_CS_often_45 (fin1 h)

def f_Mo_lowest_6 : Nat → mA → Int → Int → Int → Int → Int → Option (Int × mA)
  | 0, _, _, _, _, _, _ => none
  | n + 1, A, b0, b2, b4, b5, b7 => (if g64 b7 then (if (lc b7 0) = 0 then (if g32 b4 then (if b4 = 0 then (if g64 b0 then (if g64 b5 then (if b5 ≠ 0 then (some ((Int.tdiv b0 b5), A)) else none) else none) else none) else (if g64 b2 then (if g64 b5 then (if b5 ≠ 0 then (some ((Int.tdiv b2 b5), A)) else none) else none) else none)) else none) else (if g64 b5 then (if b7 ≠ 0 then (f_Mo_lowest_6  n A b0 b2 b4 b7 (Int.tmod b5 b7)) else none) else none)) else none)
def f_Mo_lowest (A : mA) (a0 : Int) (a1 : Int) (a2 : Int) : Option (Int × mA) := (f_Mo_lowest_6  210 A a0 a1 a2 a0 a1)
theorem f_x_Mo_lowest_0_4 : mblkB b_Mo_lowest [(0, .lload_n 0, vi 0), (1, .lstore 5, vi 0), (3, .lload_n 2, vi 0), (4, .lstore 7, vi 0)] = true := by decide +kernel
theorem f_x_Mo_lowest_6_2 : mblkB b_Mo_lowest [(6, .lload 7, vi 0), (8, .lconst 0, vl 0)] = true := by decide +kernel
theorem e_x_Mo_lowest_9 : decode b_Mo_lowest 9 = .ok (.lcmp, 1) := by decide +kernel
theorem e_x_Mo_lowest_10 : decode b_Mo_lowest 10 = .ok (.ifCond .eq 21, 3) := by decide +kernel
theorem f_x_Mo_lowest_31_1 : mblkB b_Mo_lowest [(31, .iload 4, vi 0)] = true := by decide +kernel
theorem e_x_Mo_lowest_33 : decode b_Mo_lowest 33 = .ok (.ifCond .ne 7, 3) := by decide +kernel
theorem f_x_Mo_lowest_40_2 : mblkB b_Mo_lowest [(40, .lload_n 2, vi 0), (41, .lload 5, vi 0)] = true := by decide +kernel
theorem e_x_Mo_lowest_43 : decode b_Mo_lowest 43 = .ok (.ldiv, 1) := by decide +kernel
theorem e_x_Mo_lowest_44 : decode b_Mo_lowest 44 = .ok (.lreturn, 1) := by decide +kernel
theorem f_x_Mo_lowest_36_2 : mblkB b_Mo_lowest [(36, .lload_n 0, vi 0), (37, .goto 4, vi 41)] = true := by decide +kernel
theorem f_x_Mo_lowest_41_1 : mblkB b_Mo_lowest [(41, .lload 5, vi 0)] = true := by decide +kernel
theorem f_x_Mo_lowest_13_2 : mblkB b_Mo_lowest [(13, .lload 5, vi 0), (15, .lload 7, vi 0)] = true := by decide +kernel
theorem e_x_Mo_lowest_17 : decode b_Mo_lowest 17 = .ok (.lrem, 1) := by decide +kernel
theorem f_x_Mo_lowest_18_6 : mblkB b_Mo_lowest [(18, .lstore 9, vi 0), (20, .lload 7, vi 0), (22, .lstore 5, vi 0), (24, .lload 9, vi 0), (26, .lstore 7, vi 0), (28, .goto (-22), vi 6)] = true := by decide +kernel
set_option maxHeartbeats 4000000 in
set_option maxRecDepth 20000 in
theorem x_Mo_lowest  : ∀ (l : Launch) (D : va_G) (B : Nat) (H0 : Heap) (ad : mAd) (A : mA) (a0 : Int) (a1 : Int) (a2 : Int) (hS : mStr D ad) (r9 : Int) (A9 : mA), f_Mo_lowest  A a0 a1 a2 = some (r9, A9) → mMet l D B H0 ad y_Mo_lowest b_Mo_lowest 11 (some .long) 0 0 [vl a0, vl a1, vi a2] A (fun v A' => v = some (vl r9) ∧ A' = A9) := by
  intro l D B H0 ad A a0 a1 a2  hS r9 A9 h
  refine m_met (by decide) rfl (fun g w0 C Rm Y E => ?_)
  have hd_6 : ∀ (n : Nat) (A : mA) (b0 : Int) (b2 : Int) (b4 : Int) (b5 : Int) (b7 : Int) , f_Mo_lowest_6  n A b0 b2 b4 b5 b7 = some (r9, A9) → JM g D ad w0 A 6 [(0, vl b0), (2, vl b2), (4, vi b4), (5, vl b5), (7, vl b7)] [] := by
    intro n
    induction n with
    | zero => intro A b0 b2 b4 b5 b7  h; cases h
    | succ n ih =>
      intro A b0 b2 b4 b5 b7  h
      unfold f_Mo_lowest_6 at h
      refine m_blk 9 [(0, vl b0), (2, vl b2), (4, vi b4), (5, vl b5), (7, vl b7)] [vl 0, vl b7] C f_x_Mo_lowest_6_2 rfl ?_
      obtain ⟨c1, h⟩ := igd h
      refine m_lcmp C e_x_Mo_lowest_9 c1 (by decide) (fun z2 hz2 => ?_)
      obtain rfl : z2 = lc b7 0 := lc_of hz2
      refine m_if_eq (tgt := 31) C e_x_Mo_lowest_10 (by decide) lc_r (fun c3 => ?_) (fun c3 => ?_)
      · have h := ifp c3 h
        refine m_blk 33 [(0, vl b0), (2, vl b2), (4, vi b4), (5, vl b5), (7, vl b7)] [vi b4] C f_x_Mo_lowest_31_1 rfl ?_
        obtain ⟨c4, h⟩ := igd h
        refine m_if_ne (tgt := 40) C e_x_Mo_lowest_33 (by decide) c4 (fun c5 => ?_) (fun c5 => ?_)
        · have h := ifn c5 h
          refine m_blk 43 [(0, vl b0), (2, vl b2), (4, vi b4), (5, vl b5), (7, vl b7)] [vl b5, vl b2] C f_x_Mo_lowest_40_2 rfl ?_
          obtain ⟨c6, h⟩ := igd h
          obtain ⟨c7, h⟩ := igd h
          obtain ⟨c8, h⟩ := igd h
          refine m_ldiv C e_x_Mo_lowest_43 c6 c7 c8 ?_
          exact m_lret C Rm E e_x_Mo_lowest_44 (finL h)
        · have h := ifp c5 h
          refine m_blk 41 [(0, vl b0), (2, vl b2), (4, vi b4), (5, vl b5), (7, vl b7)] [vl b0] C f_x_Mo_lowest_36_2 rfl ?_
          refine m_blk 43 [(0, vl b0), (2, vl b2), (4, vi b4), (5, vl b5), (7, vl b7)] [vl b5, vl b0] C f_x_Mo_lowest_41_1 rfl ?_
          obtain ⟨c9, h⟩ := igd h
          obtain ⟨c10, h⟩ := igd h
          obtain ⟨c11, h⟩ := igd h
          refine m_ldiv C e_x_Mo_lowest_43 c9 c10 c11 ?_
          exact m_lret C Rm E e_x_Mo_lowest_44 (finL h)
      · have h := ifn c3 h
        refine m_blk 17 [(0, vl b0), (2, vl b2), (4, vi b4), (5, vl b5), (7, vl b7)] [vl b7, vl b5] C f_x_Mo_lowest_13_2 rfl ?_
        obtain ⟨c12, h⟩ := igd h
        obtain ⟨c13, h⟩ := igd h
        refine m_lrem C e_x_Mo_lowest_17 c12 c1 c13 ?_
        refine m_blk 6 [(7, vl (Int.tmod b5 b7)), (5, vl b7), (9, vl (Int.tmod b5 b7)), (0, vl b0), (2, vl b2), (4, vi b4)] [] C f_x_Mo_lowest_18_6 rfl ?_
        refine m_loc [(0, vl b0), (2, vl b2), (4, vi b4), (5, vl b7), (7, vl (Int.tmod b5 b7))] ⟨rfl, rfl, rfl, rfl, rfl, trivial⟩ ?_
        exact ih A b0 b2 b4 b7 (Int.tmod b5 b7)  h
  show JM g D ad w0 A 0 [(0, vl a0), (2, vl a1), (4, vi a2)] []
  unfold f_Mo_lowest at h
  refine m_blk 6 [(7, vl a1), (5, vl a0), (0, vl a0), (2, vl a1), (4, vi a2)] [] C f_x_Mo_lowest_0_4 rfl ?_
  refine m_loc [(0, vl a0), (2, vl a1), (4, vi a2), (5, vl a0), (7, vl a1)] ⟨rfl, rfl, rfl, rfl, rfl, trivial⟩ ?_
  exact hd_6 _ A a0 a1 a2 a0 a1  h

def f_Mo_often_59 : Nat → mA → Int → Int → Int → Int → Int → Int → Int → Int → Int → Option (Int × mA)
  | 0, _, _, _, _, _, _, _, _, _, _ => none
  | n + 1, A, b1, b2, b3, b4, b5, b6, b7, b8, b9 => (if g32 b9 then if g32 b3 then (if b3 ≤ b9 then (if g32 b7 then (if b7 = 0 then (some ((-1), A)) else (if g32 b8 then (Option.bind (f_Mo_lowest A b8 b7 b6) (fun q7 => (some (q7.1, q7.2)))) else none)) else none) else (Option.bind (f_Mo_comesBy A b1 (b2 + b9)) (fun q9 => (if g32 q9.1 then (if q9.1 = (-1) then (f_Mo_often_59  n q9.2 b1 b2 b3 b4 b5 b6 b7 b8 (b9 + 1)) else (Option.bind (f_Mo_valueOf q9.2 q9.1 b4) (fun q13 => (if g32 q13.1 then if g32 b5 then (if q13.1 = b5 then (f_Mo_often_59  n q13.2 b1 b2 b3 b4 b5 b6 (b7 + 1) (b8 + 1) (b9 + 1)) else (f_Mo_often_59  n q13.2 b1 b2 b3 b4 b5 b6 (b7 + 1) b8 (b9 + 1))) else none else none)))) else none)))) else none else none)
def f_Mo_often (A : mA) (a0 : Int) (a1 : Int) (a2 : Int) (a3 : Int) (a4 : Int) (a5 : Int) : Option (Int × mA) := (Option.bind (f_Mo_isProgram A a0) (fun q18 => (if g32 q18.1 then (if q18.1 = 0 then (some ((-2), q18.2)) else (Option.bind (f_Mo_in q18.2 a2 1 20) (fun q22 => (if g32 q22.1 then (if q22.1 = 0 then (some ((-2), q22.2)) else (Option.bind (f_Mo_isName q22.2 a3) (fun q26 => (if g32 q26.1 then (if q26.1 = 0 then (some ((-2), q26.2)) else (Option.bind (f_Mo_in q26.2 a4 0 9) (fun q30 => (if g32 q30.1 then (if q30.1 = 0 then (some ((-2), q30.2)) else (Option.bind (f_Mo_in q30.2 a5 0 1) (fun q34 => (if g32 q34.1 then (if q34.1 = 0 then (some ((-2), q34.2)) else (f_Mo_often_59  30 q34.2 a0 a1 a2 a3 a4 a5 0 0 0)) else none)))) else none)))) else none)))) else none)))) else none)))
theorem f_x_Mo_often_0_2 : mblkB b_Mo_often [(0, .aload_n 0, vi 0), (1, .iload_n 1, vi 0)] = true := by decide +kernel
theorem e_x_Mo_often_2 : decode b_Mo_often 2 = .ok (.invokevirtual 364, 3) := by decide +kernel
theorem e_x_Mo_often_5 : decode b_Mo_often 5 = .ok (.ifCond .eq 42, 3) := by decide +kernel
theorem f_x_Mo_often_47_1 : mblkB b_Mo_often [(47, .bipush (-2), vi (-2))] = true := by decide +kernel
theorem e_x_Mo_often_49 : decode b_Mo_often 49 = .ok (.ireturn, 1) := by decide +kernel
theorem f_x_Mo_often_8_3 : mblkB b_Mo_often [(8, .iload_n 3, vi 0), (9, .iconst 1, vi 1), (10, .bipush 20, vi 20)] = true := by decide +kernel
theorem e_x_Mo_often_12 : decode b_Mo_often 12 = .ok (.invokestatic 108, 3) := by decide +kernel
theorem e_x_Mo_often_15 : decode b_Mo_often 15 = .ok (.ifCond .eq 32, 3) := by decide +kernel
theorem f_x_Mo_often_18_1 : mblkB b_Mo_often [(18, .iload 4, vi 0)] = true := by decide +kernel
theorem e_x_Mo_often_20 : decode b_Mo_often 20 = .ok (.invokestatic 254, 3) := by decide +kernel
theorem e_x_Mo_often_23 : decode b_Mo_often 23 = .ok (.ifCond .eq 24, 3) := by decide +kernel
theorem f_x_Mo_often_26_3 : mblkB b_Mo_often [(26, .iload 5, vi 0), (28, .iconst 0, vi 0), (29, .bipush 9, vi 9)] = true := by decide +kernel
theorem e_x_Mo_often_31 : decode b_Mo_often 31 = .ok (.invokestatic 108, 3) := by decide +kernel
theorem e_x_Mo_often_34 : decode b_Mo_often 34 = .ok (.ifCond .eq 13, 3) := by decide +kernel
theorem f_x_Mo_often_37_3 : mblkB b_Mo_often [(37, .iload 6, vi 0), (39, .iconst 0, vi 0), (40, .iconst 1, vi 1)] = true := by decide +kernel
theorem e_x_Mo_often_41 : decode b_Mo_often 41 = .ok (.invokestatic 108, 3) := by decide +kernel
theorem e_x_Mo_often_44 : decode b_Mo_often 44 = .ok (.ifCond .ne 6, 3) := by decide +kernel
theorem f_x_Mo_often_50_6 : mblkB b_Mo_often [(50, .iconst 0, vi 0), (51, .istore 7, vi 0), (53, .iconst 0, vi 0), (54, .istore 8, vi 0), (56, .iconst 0, vi 0), (57, .istore 9, vi 0)] = true := by decide +kernel
theorem f_x_Mo_often_59_2 : mblkB b_Mo_often [(59, .iload 9, vi 0), (61, .iload_n 3, vi 0)] = true := by decide +kernel
theorem e_x_Mo_often_62 : decode b_Mo_often 62 = .ok (.if_icmp .ge 47, 3) := by decide +kernel
theorem f_x_Mo_often_109_1 : mblkB b_Mo_often [(109, .iload 7, vi 0)] = true := by decide +kernel
theorem e_x_Mo_often_111 : decode b_Mo_often 111 = .ok (.ifCond .ne 7, 3) := by decide +kernel
theorem f_x_Mo_often_118_1 : mblkB b_Mo_often [(118, .iload 8, vi 0)] = true := by decide +kernel
theorem e_x_Mo_often_120 : decode b_Mo_often 120 = .ok (.i2l, 1) := by decide +kernel
theorem f_x_Mo_often_121_1 : mblkB b_Mo_often [(121, .iload 7, vi 0)] = true := by decide +kernel
theorem e_x_Mo_often_123 : decode b_Mo_often 123 = .ok (.i2l, 1) := by decide +kernel
theorem f_x_Mo_often_124_1 : mblkB b_Mo_often [(124, .iload 6, vi 0)] = true := by decide +kernel
theorem e_x_Mo_often_126 : decode b_Mo_often 126 = .ok (.invokestatic 376, 3) := by decide +kernel
theorem f_x_Mo_often_129_1 : mblkB b_Mo_often [(129, .l2i, vi 0)] = true := by decide +kernel
theorem e_x_Mo_often_130 : decode b_Mo_often 130 = .ok (.ireturn, 1) := by decide +kernel
theorem f_x_Mo_often_114_2 : mblkB b_Mo_often [(114, .iconst (-1), vi (-1)), (115, .goto 15, vi 130)] = true := by decide +kernel
theorem f_x_Mo_often_65_5 : mblkB b_Mo_often [(65, .aload_n 0, vi 0), (66, .iload_n 1, vi 0), (67, .iload_n 2, vi 0), (68, .iload 9, vi 0), (70, .iadd, vi 0)] = true := by decide +kernel
theorem e_x_Mo_often_71 : decode b_Mo_often 71 = .ok (.invokevirtual 409, 3) := by decide +kernel
theorem f_x_Mo_often_74_3 : mblkB b_Mo_often [(74, .istore 10, vi 0), (76, .iload 10, vi 0), (78, .iconst (-1), vi (-1))] = true := by decide +kernel
theorem e_x_Mo_often_79 : decode b_Mo_often 79 = .ok (.if_icmp .ne 6, 3) := by decide +kernel
theorem f_x_Mo_often_85_3 : mblkB b_Mo_often [(85, .iinc 7 1, vi 1), (88, .iload 10, vi 0), (90, .iload 4, vi 0)] = true := by decide +kernel
theorem e_x_Mo_often_92 : decode b_Mo_often 92 = .ok (.invokestatic 260, 3) := by decide +kernel
theorem f_x_Mo_often_95_1 : mblkB b_Mo_often [(95, .iload 5, vi 0)] = true := by decide +kernel
theorem e_x_Mo_often_97 : decode b_Mo_often 97 = .ok (.if_icmp .ne 6, 3) := by decide +kernel
theorem f_x_Mo_often_103_2 : mblkB b_Mo_often [(103, .iinc 9 1, vi 1), (106, .goto (-47), vi 59)] = true := by decide +kernel
theorem f_x_Mo_often_100_3 : mblkB b_Mo_often [(100, .iinc 8 1, vi 1), (103, .iinc 9 1, vi 1), (106, .goto (-47), vi 59)] = true := by decide +kernel
theorem f_x_Mo_often_82_1 : mblkB b_Mo_often [(82, .goto 21, vi 103)] = true := by decide +kernel
set_option maxHeartbeats 4000000 in
set_option maxRecDepth 20000 in
theorem x_Mo_often  : ∀ (l : Launch) (D : va_G) (B : Nat) (H0 : Heap) (ad : mAd) (A : mA) (a0 : Int) (a1 : Int) (a2 : Int) (a3 : Int) (a4 : Int) (a5 : Int) (hS : mStr D ad) (r9 : Int) (A9 : mA), f_Mo_often  A a0 a1 a2 a3 a4 a5 = some (r9, A9) → mMet l D B H0 ad y_Mo_often b_Mo_often 11 (some .int) 904 29308 [vr 0 0, vi a0, vi a1, vi a2, vi a3, vi a4, vi a5] A (fun v A' => v = some (vi r9) ∧ A' = A9) := by
  intro l D B H0 ad A a0 a1 a2 a3 a4 a5  hS r9 A9 h
  refine m_met (by decide) rfl (fun g w0 C Rm Y E => ?_)
  have hd_59 : ∀ (n : Nat) (A : mA) (b1 : Int) (b2 : Int) (b3 : Int) (b4 : Int) (b5 : Int) (b6 : Int) (b7 : Int) (b8 : Int) (b9 : Int) , f_Mo_often_59  n A b1 b2 b3 b4 b5 b6 b7 b8 b9 = some (r9, A9) → JM g D ad w0 A 59 [(0, vr 0 0), (1, vi b1), (2, vi b2), (3, vi b3), (4, vi b4), (5, vi b5), (6, vi b6), (7, vi b7), (8, vi b8), (9, vi b9)] [] := by
    intro n
    induction n with
    | zero => intro A b1 b2 b3 b4 b5 b6 b7 b8 b9  h; cases h
    | succ n ih =>
      intro A b1 b2 b3 b4 b5 b6 b7 b8 b9  h
      unfold f_Mo_often_59 at h
      refine m_blk 62 [(0, vr 0 0), (1, vi b1), (2, vi b2), (3, vi b3), (4, vi b4), (5, vi b5), (6, vi b6), (7, vi b7), (8, vi b8), (9, vi b9)] [vi b3, vi b9] C f_x_Mo_often_59_2 rfl ?_
      obtain ⟨c1, h⟩ := igd h
      obtain ⟨c2, h⟩ := igd h
      refine m_icmp_ge (tgt := 109) C e_x_Mo_often_62 (by decide) c1 c2 (fun c3 => ?_) (fun c3 => ?_)
      · have h := ifp c3 h
        refine m_blk 111 [(0, vr 0 0), (1, vi b1), (2, vi b2), (3, vi b3), (4, vi b4), (5, vi b5), (6, vi b6), (7, vi b7), (8, vi b8), (9, vi b9)] [vi b7] C f_x_Mo_often_109_1 rfl ?_
        obtain ⟨c4, h⟩ := igd h
        refine m_if_ne (tgt := 118) C e_x_Mo_often_111 (by decide) c4 (fun c5 => ?_) (fun c5 => ?_)
        · have h := ifn c5 h
          refine m_blk 120 [(0, vr 0 0), (1, vi b1), (2, vi b2), (3, vi b3), (4, vi b4), (5, vi b5), (6, vi b6), (7, vi b7), (8, vi b8), (9, vi b9)] [vi b8] C f_x_Mo_often_118_1 rfl ?_
          obtain ⟨c6, h⟩ := igd h
          refine m_i2l C e_x_Mo_often_120 c6 ?_
          refine m_blk 123 [(0, vr 0 0), (1, vi b1), (2, vi b2), (3, vi b3), (4, vi b4), (5, vi b5), (6, vi b6), (7, vi b7), (8, vi b8), (9, vi b9)] [vi b7, vl b8] C f_x_Mo_often_121_1 rfl ?_
          refine m_i2l C e_x_Mo_often_123 c4 ?_
          refine m_blk 126 [(0, vr 0 0), (1, vi b1), (2, vi b2), (3, vi b3), (4, vi b4), (5, vi b5), (6, vi b6), (7, vi b7), (8, vi b8), (9, vi b9)] [vi b6, vl b7, vl b8] C f_x_Mo_often_124_1 rfl ?_
          obtain ⟨q7, e8, h⟩ := obd h
          refine m_callS C Rm Y [vl b8, vl b7, vi b6] [] (x_Mo_lowest l D B H0 ad _ b8 b7 b6 hS _ _ e8) cl_Mo_376 e_x_Mo_often_126 rfl rfl rfl ⟨by decide, by decide⟩ ?_
          rintro _ _ ⟨rfl, rfl⟩
          show JM g D ad w0 q7.2 129 [(0, vr 0 0), (1, vi b1), (2, vi b2), (3, vi b3), (4, vi b4), (5, vi b5), (6, vi b6), (7, vi b7), (8, vi b8), (9, vi b9)] [vl q7.1]
          refine m_blk 130 [(0, vr 0 0), (1, vi b1), (2, vi b2), (3, vi b3), (4, vi b4), (5, vi b5), (6, vi b6), (7, vi b7), (8, vi b8), (9, vi b9)] [vi q7.1] C f_x_Mo_often_129_1 rfl ?_
          exact m_iret C Rm E e_x_Mo_often_130 (fin1 h)
        · have h := ifp c5 h
          refine m_blk 130 [(0, vr 0 0), (1, vi b1), (2, vi b2), (3, vi b3), (4, vi b4), (5, vi b5), (6, vi b6), (7, vi b7), (8, vi b8), (9, vi b9)] [vi (-1)] C f_x_Mo_often_114_2 rfl ?_
          exact m_iret C Rm E e_x_Mo_often_130 (fin1 h)
      · have h := ifn c3 h
        refine m_blk 71 [(0, vr 0 0), (1, vi b1), (2, vi b2), (3, vi b3), (4, vi b4), (5, vi b5), (6, vi b6), (7, vi b7), (8, vi b8), (9, vi b9)] [vi (b2 + b9), vi b1, vr 0 0] C f_x_Mo_often_65_5 rfl ?_
        obtain ⟨q9, e10, h⟩ := obd h
        refine m_callV C Rm Y [vi b1, vi (b2 + b9)] [] (x_Mo_comesBy l D B H0 ad _ b1 (b2 + b9) hS _ _ e10) cl_Mo_409 rfl (by decide) rfl rfl e_x_Mo_often_71 rfl rfl rfl ⟨by decide, by decide⟩ ?_
        rintro _ _ ⟨rfl, rfl⟩
        show JM g D ad w0 q9.2 74 [(0, vr 0 0), (1, vi b1), (2, vi b2), (3, vi b3), (4, vi b4), (5, vi b5), (6, vi b6), (7, vi b7), (8, vi b8), (9, vi b9)] [vi q9.1]
        refine m_blk 79 [(10, vi q9.1), (0, vr 0 0), (1, vi b1), (2, vi b2), (3, vi b3), (4, vi b4), (5, vi b5), (6, vi b6), (7, vi b7), (8, vi b8), (9, vi b9)] [vi (-1), vi q9.1] C f_x_Mo_often_74_3 rfl ?_
        obtain ⟨c11, h⟩ := igd h
        refine m_icmp_ne (tgt := 85) C e_x_Mo_often_79 (by decide) c11 (by decide) (fun c12 => ?_) (fun c12 => ?_)
        · have h := ifn c12 h
          refine m_blk 92 [(7, vi (b7 + 1)), (10, vi q9.1), (0, vr 0 0), (1, vi b1), (2, vi b2), (3, vi b3), (4, vi b4), (5, vi b5), (6, vi b6), (8, vi b8), (9, vi b9)] [vi b4, vi q9.1] C f_x_Mo_often_85_3 rfl ?_
          obtain ⟨q13, e14, h⟩ := obd h
          refine m_callS C Rm Y [vi q9.1, vi b4] [] (x_Mo_valueOf l D B H0 ad _ q9.1 b4 hS _ _ e14) cl_Mo_260 e_x_Mo_often_92 rfl rfl rfl ⟨by decide, by decide⟩ ?_
          rintro _ _ ⟨rfl, rfl⟩
          show JM g D ad w0 q13.2 95 [(7, vi (b7 + 1)), (10, vi q9.1), (0, vr 0 0), (1, vi b1), (2, vi b2), (3, vi b3), (4, vi b4), (5, vi b5), (6, vi b6), (8, vi b8), (9, vi b9)] [vi q13.1]
          refine m_blk 97 [(7, vi (b7 + 1)), (10, vi q9.1), (0, vr 0 0), (1, vi b1), (2, vi b2), (3, vi b3), (4, vi b4), (5, vi b5), (6, vi b6), (8, vi b8), (9, vi b9)] [vi b5, vi q13.1] C f_x_Mo_often_95_1 rfl ?_
          obtain ⟨c15, h⟩ := igd h
          obtain ⟨c16, h⟩ := igd h
          refine m_icmp_ne (tgt := 103) C e_x_Mo_often_97 (by decide) c15 c16 (fun c17 => ?_) (fun c17 => ?_)
          · have h := ifn c17 h
            refine m_blk 59 [(9, vi (b9 + 1)), (7, vi (b7 + 1)), (10, vi q9.1), (0, vr 0 0), (1, vi b1), (2, vi b2), (3, vi b3), (4, vi b4), (5, vi b5), (6, vi b6), (8, vi b8)] [] C f_x_Mo_often_103_2 rfl ?_
            refine m_loc [(0, vr 0 0), (1, vi b1), (2, vi b2), (3, vi b3), (4, vi b4), (5, vi b5), (6, vi b6), (7, vi (b7 + 1)), (8, vi b8), (9, vi (b9 + 1))] ⟨rfl, rfl, rfl, rfl, rfl, rfl, rfl, rfl, rfl, rfl, trivial⟩ ?_
            exact ih q13.2 b1 b2 b3 b4 b5 b6 (b7 + 1) b8 (b9 + 1)  h
          · have h := ifp c17 h
            refine m_blk 59 [(9, vi (b9 + 1)), (8, vi (b8 + 1)), (7, vi (b7 + 1)), (10, vi q9.1), (0, vr 0 0), (1, vi b1), (2, vi b2), (3, vi b3), (4, vi b4), (5, vi b5), (6, vi b6)] [] C f_x_Mo_often_100_3 rfl ?_
            refine m_loc [(0, vr 0 0), (1, vi b1), (2, vi b2), (3, vi b3), (4, vi b4), (5, vi b5), (6, vi b6), (7, vi (b7 + 1)), (8, vi (b8 + 1)), (9, vi (b9 + 1))] ⟨rfl, rfl, rfl, rfl, rfl, rfl, rfl, rfl, rfl, rfl, trivial⟩ ?_
            exact ih q13.2 b1 b2 b3 b4 b5 b6 (b7 + 1) (b8 + 1) (b9 + 1)  h
        · have h := ifp c12 h
          refine m_blk 103 [(10, vi q9.1), (0, vr 0 0), (1, vi b1), (2, vi b2), (3, vi b3), (4, vi b4), (5, vi b5), (6, vi b6), (7, vi b7), (8, vi b8), (9, vi b9)] [] C f_x_Mo_often_82_1 rfl ?_
          refine m_blk 59 [(9, vi (b9 + 1)), (10, vi q9.1), (0, vr 0 0), (1, vi b1), (2, vi b2), (3, vi b3), (4, vi b4), (5, vi b5), (6, vi b6), (7, vi b7), (8, vi b8)] [] C f_x_Mo_often_103_2 rfl ?_
          refine m_loc [(0, vr 0 0), (1, vi b1), (2, vi b2), (3, vi b3), (4, vi b4), (5, vi b5), (6, vi b6), (7, vi b7), (8, vi b8), (9, vi (b9 + 1))] ⟨rfl, rfl, rfl, rfl, rfl, rfl, rfl, rfl, rfl, rfl, trivial⟩ ?_
          exact ih q9.2 b1 b2 b3 b4 b5 b6 b7 b8 (b9 + 1)  h
  show JM g D ad w0 A 0 [(0, vr 0 0), (1, vi a0), (2, vi a1), (3, vi a2), (4, vi a3), (5, vi a4), (6, vi a5)] []
  unfold f_Mo_often at h
  refine m_blk 2 [(0, vr 0 0), (1, vi a0), (2, vi a1), (3, vi a2), (4, vi a3), (5, vi a4), (6, vi a5)] [vi a0, vr 0 0] C f_x_Mo_often_0_2 rfl ?_
  obtain ⟨q18, e19, h⟩ := obd h
  refine m_callV C Rm Y [vi a0] [] (x_Mo_isProgram l D B H0 ad _ a0 hS _ _ e19) cl_Mo_364 rfl (by decide) rfl rfl e_x_Mo_often_2 rfl rfl rfl ⟨by decide, by decide⟩ ?_
  rintro _ _ ⟨rfl, rfl⟩
  show JM g D ad w0 q18.2 5 [(0, vr 0 0), (1, vi a0), (2, vi a1), (3, vi a2), (4, vi a3), (5, vi a4), (6, vi a5)] [vi q18.1]
  obtain ⟨c20, h⟩ := igd h
  refine m_if_eq (tgt := 47) C e_x_Mo_often_5 (by decide) c20 (fun c21 => ?_) (fun c21 => ?_)
  · have h := ifp c21 h
    refine m_blk 49 [(0, vr 0 0), (1, vi a0), (2, vi a1), (3, vi a2), (4, vi a3), (5, vi a4), (6, vi a5)] [vi (-2)] C f_x_Mo_often_47_1 rfl ?_
    exact m_iret C Rm E e_x_Mo_often_49 (fin1 h)
  · have h := ifn c21 h
    refine m_blk 12 [(0, vr 0 0), (1, vi a0), (2, vi a1), (3, vi a2), (4, vi a3), (5, vi a4), (6, vi a5)] [vi 20, vi 1, vi a2] C f_x_Mo_often_8_3 rfl ?_
    obtain ⟨q22, e23, h⟩ := obd h
    refine m_callS C Rm Y [vi a2, vi 1, vi 20] [] (x_Mo_in l D B H0 ad _ a2 1 20 hS _ _ e23) cl_Mo_108 e_x_Mo_often_12 rfl rfl rfl ⟨by decide, by decide⟩ ?_
    rintro _ _ ⟨rfl, rfl⟩
    show JM g D ad w0 q22.2 15 [(0, vr 0 0), (1, vi a0), (2, vi a1), (3, vi a2), (4, vi a3), (5, vi a4), (6, vi a5)] [vi q22.1]
    obtain ⟨c24, h⟩ := igd h
    refine m_if_eq (tgt := 47) C e_x_Mo_often_15 (by decide) c24 (fun c25 => ?_) (fun c25 => ?_)
    · have h := ifp c25 h
      refine m_blk 49 [(0, vr 0 0), (1, vi a0), (2, vi a1), (3, vi a2), (4, vi a3), (5, vi a4), (6, vi a5)] [vi (-2)] C f_x_Mo_often_47_1 rfl ?_
      exact m_iret C Rm E e_x_Mo_often_49 (fin1 h)
    · have h := ifn c25 h
      refine m_blk 20 [(0, vr 0 0), (1, vi a0), (2, vi a1), (3, vi a2), (4, vi a3), (5, vi a4), (6, vi a5)] [vi a3] C f_x_Mo_often_18_1 rfl ?_
      obtain ⟨q26, e27, h⟩ := obd h
      refine m_callS C Rm Y [vi a3] [] (x_Mo_isName l D B H0 ad _ a3 hS _ _ e27) cl_Mo_254 e_x_Mo_often_20 rfl rfl rfl ⟨by decide, by decide⟩ ?_
      rintro _ _ ⟨rfl, rfl⟩
      show JM g D ad w0 q26.2 23 [(0, vr 0 0), (1, vi a0), (2, vi a1), (3, vi a2), (4, vi a3), (5, vi a4), (6, vi a5)] [vi q26.1]
      obtain ⟨c28, h⟩ := igd h
      refine m_if_eq (tgt := 47) C e_x_Mo_often_23 (by decide) c28 (fun c29 => ?_) (fun c29 => ?_)
      · have h := ifp c29 h
        refine m_blk 49 [(0, vr 0 0), (1, vi a0), (2, vi a1), (3, vi a2), (4, vi a3), (5, vi a4), (6, vi a5)] [vi (-2)] C f_x_Mo_often_47_1 rfl ?_
        exact m_iret C Rm E e_x_Mo_often_49 (fin1 h)
      · have h := ifn c29 h
        refine m_blk 31 [(0, vr 0 0), (1, vi a0), (2, vi a1), (3, vi a2), (4, vi a3), (5, vi a4), (6, vi a5)] [vi 9, vi 0, vi a4] C f_x_Mo_often_26_3 rfl ?_
        obtain ⟨q30, e31, h⟩ := obd h
        refine m_callS C Rm Y [vi a4, vi 0, vi 9] [] (x_Mo_in l D B H0 ad _ a4 0 9 hS _ _ e31) cl_Mo_108 e_x_Mo_often_31 rfl rfl rfl ⟨by decide, by decide⟩ ?_
        rintro _ _ ⟨rfl, rfl⟩
        show JM g D ad w0 q30.2 34 [(0, vr 0 0), (1, vi a0), (2, vi a1), (3, vi a2), (4, vi a3), (5, vi a4), (6, vi a5)] [vi q30.1]
        obtain ⟨c32, h⟩ := igd h
        refine m_if_eq (tgt := 47) C e_x_Mo_often_34 (by decide) c32 (fun c33 => ?_) (fun c33 => ?_)
        · have h := ifp c33 h
          refine m_blk 49 [(0, vr 0 0), (1, vi a0), (2, vi a1), (3, vi a2), (4, vi a3), (5, vi a4), (6, vi a5)] [vi (-2)] C f_x_Mo_often_47_1 rfl ?_
          exact m_iret C Rm E e_x_Mo_often_49 (fin1 h)
        · have h := ifn c33 h
          refine m_blk 41 [(0, vr 0 0), (1, vi a0), (2, vi a1), (3, vi a2), (4, vi a3), (5, vi a4), (6, vi a5)] [vi 1, vi 0, vi a5] C f_x_Mo_often_37_3 rfl ?_
          obtain ⟨q34, e35, h⟩ := obd h
          refine m_callS C Rm Y [vi a5, vi 0, vi 1] [] (x_Mo_in l D B H0 ad _ a5 0 1 hS _ _ e35) cl_Mo_108 e_x_Mo_often_41 rfl rfl rfl ⟨by decide, by decide⟩ ?_
          rintro _ _ ⟨rfl, rfl⟩
          show JM g D ad w0 q34.2 44 [(0, vr 0 0), (1, vi a0), (2, vi a1), (3, vi a2), (4, vi a3), (5, vi a4), (6, vi a5)] [vi q34.1]
          obtain ⟨c36, h⟩ := igd h
          refine m_if_ne (tgt := 50) C e_x_Mo_often_44 (by decide) c36 (fun c37 => ?_) (fun c37 => ?_)
          · have h := ifn c37 h
            refine m_blk 59 [(9, vi 0), (8, vi 0), (7, vi 0), (0, vr 0 0), (1, vi a0), (2, vi a1), (3, vi a2), (4, vi a3), (5, vi a4), (6, vi a5)] [] C f_x_Mo_often_50_6 rfl ?_
            refine m_loc [(0, vr 0 0), (1, vi a0), (2, vi a1), (3, vi a2), (4, vi a3), (5, vi a4), (6, vi a5), (7, vi 0), (8, vi 0), (9, vi 0)] ⟨rfl, rfl, rfl, rfl, rfl, rfl, rfl, rfl, rfl, rfl, trivial⟩ ?_
            exact hd_59 _ q34.2 a0 a1 a2 a3 a4 a5 0 0 0  h
          · have h := ifp c37 h
            refine m_blk 49 [(0, vr 0 0), (1, vi a0), (2, vi a1), (3, vi a2), (4, vi a3), (5, vi a4), (6, vi a5)] [vi (-2)] C f_x_Mo_often_47_1 rfl ?_
            exact m_iret C Rm E e_x_Mo_often_49 (fin1 h)

