/-! the faces of the class that ask for odds, and the sheets (own work, by program) -/
def f_CS_isSheet (A : mA) (a0 : Int) : Option (Int × mA) := (if g32 a0 then (if a0 < 0 then (some (0, A)) else (if 4 ≤ a0 then (some (0, A)) else (some (1, A)))) else none)
theorem f_hx_CS_isSheet_0_1 : mblkB b_CS_isSheet [(0, .iload_n 0, vi 0)] = true := by decide +kernel
theorem e_hx_CS_isSheet_1 : decode b_CS_isSheet 1 = .ok (.ifCond .lt 12, 3) := by decide +kernel
theorem f_hx_CS_isSheet_13_1 : mblkB b_CS_isSheet [(13, .iconst 0, vi 0)] = true := by decide +kernel
theorem e_hx_CS_isSheet_14 : decode b_CS_isSheet 14 = .ok (.ireturn, 1) := by decide +kernel
theorem f_hx_CS_isSheet_4_2 : mblkB b_CS_isSheet [(4, .iload_n 0, vi 0), (5, .iconst 4, vi 4)] = true := by decide +kernel
theorem e_hx_CS_isSheet_6 : decode b_CS_isSheet 6 = .ok (.if_icmp .ge 7, 3) := by decide +kernel
theorem f_hx_CS_isSheet_9_2 : mblkB b_CS_isSheet [(9, .iconst 1, vi 1), (10, .goto 4, vi 14)] = true := by decide +kernel
set_option maxHeartbeats 4000000 in
set_option maxRecDepth 20000 in
theorem hx_CS_isSheet  : ∀ (l : Launch) (D : va_G) (B : Nat) (H0 : Heap) (G : tG) (A : mA) (a0 : Int)  (r9 : Int) (A9 : mA), f_CS_isSheet  A a0 = some (r9, A9) → hMet l D B H0 G y_CS_isSheet b_CS_isSheet 1 (some .boolean) 0 0 [vi a0] A (fun v A' => v = some (vi r9) ∧ A' = A9) := by
  intro l D B H0 G A a0  r9 A9 h
  refine h_met (by decide) rfl (fun g q C Rm Y E => ?_)
  show HM g D G q A 0 [(0, vi a0)] []
  unfold f_CS_isSheet at h
  refine h_blk 1 [(0, vi a0)] [vi a0] C f_hx_CS_isSheet_0_1 rfl ?_
  obtain ⟨c1, h⟩ := igd h
  refine h_if_lt (tgt := 13) C e_hx_CS_isSheet_1 (by decide) c1 (fun c2 => ?_) (fun c2 => ?_)
  · have h := ifp c2 h
    refine h_blk 14 [(0, vi a0)] [vi 0] C f_hx_CS_isSheet_13_1 rfl ?_
    exact h_zret C Rm E (Or.inl rfl) e_hx_CS_isSheet_14 (fin1 h)
  · have h := ifn c2 h
    refine h_blk 6 [(0, vi a0)] [vi 4, vi a0] C f_hx_CS_isSheet_4_2 rfl ?_
    refine h_icmp_ge (tgt := 13) C e_hx_CS_isSheet_6 (by decide) c1 (by decide) (fun c3 => ?_) (fun c3 => ?_)
    · have h := ifp c3 h
      refine h_blk 14 [(0, vi a0)] [vi 0] C f_hx_CS_isSheet_13_1 rfl ?_
      exact h_zret C Rm E (Or.inl rfl) e_hx_CS_isSheet_14 (fin1 h)
    · have h := ifn c3 h
      refine h_blk 14 [(0, vi a0)] [vi 1] C f_hx_CS_isSheet_9_2 rfl ?_
      exact h_zret C Rm E (Or.inr rfl) e_hx_CS_isSheet_14 (fin1 h)

def f_Sheet_become_12 : Nat → mA → Nat → Int → Option (Int × mA)
  | 0, _, _, _ => none
  | n + 1, A, b0, b3 => (if g32 b3 then (if 40 ≤ b3 then (some (0, A)) else (if (0 ≤ b3 ∧ b3 < ((40 : Nat) : Int)) then (f_Sheet_become_12  n (mu A 24 ((A 5 b0 0).toNat) b3.toNat 0) b0 (b3 + 1)) else none)) else none)
def f_Sheet_become (A : mA) (o : Nat) (a0 : Int) (a1 : Int) : Option (Int × mA) := (f_Sheet_become_12  400 (mu (mu A 5 o 1 a0) 5 o 2 a1) o 0)
theorem f_hx_Sheet_become_0_2 : mblkB b_Sheet_become [(0, .aload_n 0, vi 0), (1, .iload_n 1, vi 0)] = true := by decide +kernel
theorem e_hx_Sheet_become_2 : decode b_Sheet_become 2 = .ok (.putfield 15, 3) := by decide +kernel
theorem f_hx_Sheet_become_5_2 : mblkB b_Sheet_become [(5, .aload_n 0, vi 0), (6, .iload_n 2, vi 0)] = true := by decide +kernel
theorem e_hx_Sheet_become_7 : decode b_Sheet_become 7 = .ok (.putfield 19, 3) := by decide +kernel
theorem f_hx_Sheet_become_10_2 : mblkB b_Sheet_become [(10, .iconst 0, vi 0), (11, .istore_n 3, vi 0)] = true := by decide +kernel
theorem f_hx_Sheet_become_12_2 : mblkB b_Sheet_become [(12, .iload_n 3, vi 0), (13, .bipush 40, vi 40)] = true := by decide +kernel
theorem e_hx_Sheet_become_15 : decode b_Sheet_become 15 = .ok (.if_icmp .ge 16, 3) := by decide +kernel
theorem e_hx_Sheet_become_31 : decode b_Sheet_become 31 = .ok (.return_, 1) := by decide +kernel
theorem f_hx_Sheet_become_18_1 : mblkB b_Sheet_become [(18, .aload_n 0, vi 0)] = true := by decide +kernel
theorem e_hx_Sheet_become_19 : decode b_Sheet_become 19 = .ok (.getfield 9, 3) := by decide +kernel
theorem f_hx_Sheet_become_22_2 : mblkB b_Sheet_become [(22, .iload_n 3, vi 0), (23, .iconst 0, vi 0)] = true := by decide +kernel
theorem e_hx_Sheet_become_24 : decode b_Sheet_become 24 = .ok (.iastore, 1) := by decide +kernel
theorem f_hx_Sheet_become_25_2 : mblkB b_Sheet_become [(25, .iinc 3 1, vi 1), (28, .goto (-16), vi 12)] = true := by decide +kernel
set_option maxHeartbeats 4000000 in
set_option maxRecDepth 20000 in
theorem hx_Sheet_become  : ∀ (l : Launch) (D : va_G) (B : Nat) (H0 : Heap) (G : tG) (A : mA) (o : Nat) (a0 : Int) (a1 : Int) (h_o : G o = some 5)  (r9 : Int) (A9 : mA), f_Sheet_become  A o a0 a1 = some (r9, A9) → hMet l D B H0 G y_Sheet_become b_Sheet_become 4 none 0 0 [vr 5 o, vi a0, vi a1] A (fun v A' => v = none ∧ A' = A9) := by
  intro l D B H0 G A o a0 a1 h_o r9 A9 h
  refine h_met (by decide) rfl (fun g q C Rm Y E => ?_)
  have hd_12 : ∀ (n : Nat) (A : mA) (b0 : Nat) (b3 : Int) , G b0 = some 5 → f_Sheet_become_12  n A b0 b3 = some (r9, A9) → HM g D G q A 12 [(0, vr 5 b0), (3, vi b3)] [] := by
    intro n
    induction n with
    | zero => intro A b0 b3 h_b0 h; cases h
    | succ n ih =>
      intro A b0 b3 h_b0 h
      unfold f_Sheet_become_12 at h
      refine h_blk 15 [(0, vr 5 b0), (3, vi b3)] [vi 40, vi b3] C f_hx_Sheet_become_12_2 rfl ?_
      obtain ⟨c1, h⟩ := igd h
      refine h_icmp_ge (tgt := 31) C e_hx_Sheet_become_15 (by decide) c1 (by decide) (fun c2 => ?_) (fun c2 => ?_)
      · have h := ifp c2 h
        exact h_vret C Rm E e_hx_Sheet_become_31 (fin0 h)
      · have h := ifn c2 h
        refine h_blk 19 [(0, vr 5 b0), (3, vi b3)] [vr 5 b0] C f_hx_Sheet_become_18_1 rfl ?_
        refine h_getr4 C e_hx_Sheet_become_19 fg_Sheet_9 h_b0 rfl rfl rfl rfl (fun g3 => ?_)
        refine h_blk 24 [(0, vr 5 b0), (3, vi b3)] [vi 0, vi b3, vr 24 ((A 5 b0 0).toNat)] C f_hx_Sheet_become_22_2 rfl ?_
        obtain ⟨c4, h⟩ := igd h
        refine h_iast C e_hx_Sheet_become_24 g3 rfl rfl (by decide) c4.1 c4.2 ?_
        refine h_blk 12 [(3, vi (b3 + 1)), (0, vr 5 b0)] [] C f_hx_Sheet_become_25_2 rfl ?_
        refine h_loc [(0, vr 5 b0), (3, vi (b3 + 1))] ⟨rfl, rfl, trivial⟩ ?_
        exact ih (mu A 24 ((A 5 b0 0).toNat) b3.toNat 0) b0 (b3 + 1) (h_b0) h
  show HM g D G q A 0 [(0, vr 5 o), (1, vi a0), (2, vi a1)] []
  unfold f_Sheet_become at h
  refine h_blk 2 [(0, vr 5 o), (1, vi a0), (2, vi a1)] [vi a0, vr 5 o] C f_hx_Sheet_become_0_2 rfl ?_
  refine h_puti C e_hx_Sheet_become_2 fp_Sheet_15 h_o rfl rfl rfl ?_
  refine h_blk 7 [(0, vr 5 o), (1, vi a0), (2, vi a1)] [vi a1, vr 5 o] C f_hx_Sheet_become_5_2 rfl ?_
  refine h_puti C e_hx_Sheet_become_7 fp_Sheet_19 h_o rfl rfl rfl ?_
  refine h_blk 12 [(3, vi 0), (0, vr 5 o), (1, vi a0), (2, vi a1)] [] C f_hx_Sheet_become_10_2 rfl ?_
  refine h_loc [(0, vr 5 o), (3, vi 0)] ⟨rfl, rfl, trivial⟩ ?_
  exact hd_12 _ (mu (mu A 5 o 1 a0) 5 o 2 a1) o 0 (h_o) h

def f_Sheet_write (A : mA) (o : Nat) (a0 : Int) (a1 : Int) : Option (Int × mA) := (if g32 a0 then (if a0 < 0 then (some (0, A)) else (if g32 (A 5 o 2) then (if (A 5 o 2) ≤ a0 then (some (0, A)) else (if 40 ≤ a0 then (some (0, A)) else (if g32 (A 5 o 1) then (if (A 5 o 1) = 0 then (if (0 ≤ a0 ∧ a0 < ((40 : Nat) : Int)) then (some (0, (mu A 24 ((A 5 o 0).toNat) a0.toNat (iAnd a1 255)))) else none) else (if (0 ≤ a0 ∧ a0 < ((40 : Nat) : Int)) then (some (0, (mu A 24 ((A 5 o 0).toNat) a0.toNat a1))) else none)) else none))) else none)) else none)
theorem f_hx_Sheet_write_0_1 : mblkB b_Sheet_write [(0, .iload_n 1, vi 0)] = true := by decide +kernel
theorem e_hx_Sheet_write_1 : decode b_Sheet_write 1 = .ok (.ifCond .lt 39, 3) := by decide +kernel
theorem e_hx_Sheet_write_40 : decode b_Sheet_write 40 = .ok (.return_, 1) := by decide +kernel
theorem f_hx_Sheet_write_4_2 : mblkB b_Sheet_write [(4, .iload_n 1, vi 0), (5, .aload_n 0, vi 0)] = true := by decide +kernel
theorem e_hx_Sheet_write_6 : decode b_Sheet_write 6 = .ok (.getfield 19, 3) := by decide +kernel
theorem e_hx_Sheet_write_9 : decode b_Sheet_write 9 = .ok (.if_icmp .ge 31, 3) := by decide +kernel
theorem f_hx_Sheet_write_12_2 : mblkB b_Sheet_write [(12, .iload_n 1, vi 0), (13, .bipush 40, vi 40)] = true := by decide +kernel
theorem e_hx_Sheet_write_15 : decode b_Sheet_write 15 = .ok (.if_icmp .ge 25, 3) := by decide +kernel
theorem f_hx_Sheet_write_18_1 : mblkB b_Sheet_write [(18, .aload_n 0, vi 0)] = true := by decide +kernel
theorem e_hx_Sheet_write_19 : decode b_Sheet_write 19 = .ok (.getfield 9, 3) := by decide +kernel
theorem f_hx_Sheet_write_22_2 : mblkB b_Sheet_write [(22, .iload_n 1, vi 0), (23, .aload_n 0, vi 0)] = true := by decide +kernel
theorem e_hx_Sheet_write_24 : decode b_Sheet_write 24 = .ok (.getfield 15, 3) := by decide +kernel
theorem e_hx_Sheet_write_27 : decode b_Sheet_write 27 = .ok (.ifCond .ne 11, 3) := by decide +kernel
theorem f_hx_Sheet_write_38_1 : mblkB b_Sheet_write [(38, .iload_n 2, vi 0)] = true := by decide +kernel
theorem e_hx_Sheet_write_39 : decode b_Sheet_write 39 = .ok (.iastore, 1) := by decide +kernel
theorem f_hx_Sheet_write_30_4 : mblkB b_Sheet_write [(30, .iload_n 2, vi 0), (31, .sipush 255, vi 255), (34, .iand, vi 0), (35, .goto 4, vi 39)] = true := by decide +kernel
set_option maxHeartbeats 4000000 in
set_option maxRecDepth 20000 in
theorem hx_Sheet_write  : ∀ (l : Launch) (D : va_G) (B : Nat) (H0 : Heap) (G : tG) (A : mA) (o : Nat) (a0 : Int) (a1 : Int) (h_o : G o = some 5)  (r9 : Int) (A9 : mA), f_Sheet_write  A o a0 a1 = some (r9, A9) → hMet l D B H0 G y_Sheet_write b_Sheet_write 3 none 0 0 [vr 5 o, vi a0, vi a1] A (fun v A' => v = none ∧ A' = A9) := by
  intro l D B H0 G A o a0 a1 h_o r9 A9 h
  refine h_met (by decide) rfl (fun g q C Rm Y E => ?_)
  show HM g D G q A 0 [(0, vr 5 o), (1, vi a0), (2, vi a1)] []
  unfold f_Sheet_write at h
  refine h_blk 1 [(0, vr 5 o), (1, vi a0), (2, vi a1)] [vi a0] C f_hx_Sheet_write_0_1 rfl ?_
  obtain ⟨c1, h⟩ := igd h
  refine h_if_lt (tgt := 40) C e_hx_Sheet_write_1 (by decide) c1 (fun c2 => ?_) (fun c2 => ?_)
  · have h := ifp c2 h
    exact h_vret C Rm E e_hx_Sheet_write_40 (fin0 h)
  · have h := ifn c2 h
    refine h_blk 6 [(0, vr 5 o), (1, vi a0), (2, vi a1)] [vr 5 o, vi a0] C f_hx_Sheet_write_4_2 rfl ?_
    refine h_geti C e_hx_Sheet_write_6 fg_Sheet_19 h_o rfl rfl rfl (A 5 o 2) rfl ?_
    obtain ⟨c3, h⟩ := igd h
    refine h_icmp_ge (tgt := 40) C e_hx_Sheet_write_9 (by decide) c1 c3 (fun c4 => ?_) (fun c4 => ?_)
    · have h := ifp c4 h
      exact h_vret C Rm E e_hx_Sheet_write_40 (fin0 h)
    · have h := ifn c4 h
      refine h_blk 15 [(0, vr 5 o), (1, vi a0), (2, vi a1)] [vi 40, vi a0] C f_hx_Sheet_write_12_2 rfl ?_
      refine h_icmp_ge (tgt := 40) C e_hx_Sheet_write_15 (by decide) c1 (by decide) (fun c5 => ?_) (fun c5 => ?_)
      · have h := ifp c5 h
        exact h_vret C Rm E e_hx_Sheet_write_40 (fin0 h)
      · have h := ifn c5 h
        refine h_blk 19 [(0, vr 5 o), (1, vi a0), (2, vi a1)] [vr 5 o] C f_hx_Sheet_write_18_1 rfl ?_
        refine h_getr4 C e_hx_Sheet_write_19 fg_Sheet_9 h_o rfl rfl rfl rfl (fun g6 => ?_)
        refine h_blk 24 [(0, vr 5 o), (1, vi a0), (2, vi a1)] [vr 5 o, vi a0, vr 24 ((A 5 o 0).toNat)] C f_hx_Sheet_write_22_2 rfl ?_
        refine h_geti C e_hx_Sheet_write_24 fg_Sheet_15 h_o rfl rfl rfl (A 5 o 1) rfl ?_
        obtain ⟨c7, h⟩ := igd h
        refine h_if_ne (tgt := 38) C e_hx_Sheet_write_27 (by decide) c7 (fun c8 => ?_) (fun c8 => ?_)
        · have h := ifn c8 h
          refine h_blk 39 [(0, vr 5 o), (1, vi a0), (2, vi a1)] [vi a1, vi a0, vr 24 ((A 5 o 0).toNat)] C f_hx_Sheet_write_38_1 rfl ?_
          obtain ⟨c9, h⟩ := igd h
          refine h_iast C e_hx_Sheet_write_39 g6 rfl rfl (by decide) c9.1 c9.2 ?_
          exact h_vret C Rm E e_hx_Sheet_write_40 (fin0 h)
        · have h := ifp c8 h
          refine h_blk 39 [(0, vr 5 o), (1, vi a0), (2, vi a1)] [vi (iAnd a1 255), vi a0, vr 24 ((A 5 o 0).toNat)] C f_hx_Sheet_write_30_4 rfl ?_
          obtain ⟨c10, h⟩ := igd h
          refine h_iast C e_hx_Sheet_write_39 g6 rfl rfl (by decide) c10.1 c10.2 ?_
          exact h_vret C Rm E e_hx_Sheet_write_40 (fin0 h)

def f_Sheet_hasRoom (A : mA) (o : Nat) (a0 : Int) (a1 : Int) : Option (Int × mA) := (if g32 a1 then (if a1 < 0 then (some (0, A)) else (if g32 (A 5 o 2) then (if (A 5 o 2) < a1 then (some (0, A)) else (if g32 a0 then (if a0 < 0 then (some (0, A)) else (if g32 ((A 5 o 2) - a1) then (if ((A 5 o 2) - a1) < a0 then (some (0, A)) else (some (1, A))) else none)) else none)) else none)) else none)
theorem f_hx_Sheet_hasRoom_0_1 : mblkB b_Sheet_hasRoom [(0, .iload_n 2, vi 0)] = true := by decide +kernel
theorem e_hx_Sheet_hasRoom_1 : decode b_Sheet_hasRoom 1 = .ok (.ifCond .lt 29, 3) := by decide +kernel
theorem f_hx_Sheet_hasRoom_30_1 : mblkB b_Sheet_hasRoom [(30, .iconst 0, vi 0)] = true := by decide +kernel
theorem e_hx_Sheet_hasRoom_31 : decode b_Sheet_hasRoom 31 = .ok (.ireturn, 1) := by decide +kernel
theorem f_hx_Sheet_hasRoom_4_2 : mblkB b_Sheet_hasRoom [(4, .iload_n 2, vi 0), (5, .aload_n 0, vi 0)] = true := by decide +kernel
theorem e_hx_Sheet_hasRoom_6 : decode b_Sheet_hasRoom 6 = .ok (.getfield 19, 3) := by decide +kernel
theorem e_hx_Sheet_hasRoom_9 : decode b_Sheet_hasRoom 9 = .ok (.if_icmp .gt 21, 3) := by decide +kernel
theorem f_hx_Sheet_hasRoom_12_1 : mblkB b_Sheet_hasRoom [(12, .iload_n 1, vi 0)] = true := by decide +kernel
theorem e_hx_Sheet_hasRoom_13 : decode b_Sheet_hasRoom 13 = .ok (.ifCond .lt 17, 3) := by decide +kernel
theorem f_hx_Sheet_hasRoom_16_2 : mblkB b_Sheet_hasRoom [(16, .iload_n 1, vi 0), (17, .aload_n 0, vi 0)] = true := by decide +kernel
theorem e_hx_Sheet_hasRoom_18 : decode b_Sheet_hasRoom 18 = .ok (.getfield 19, 3) := by decide +kernel
theorem f_hx_Sheet_hasRoom_21_2 : mblkB b_Sheet_hasRoom [(21, .iload_n 2, vi 0), (22, .isub, vi 0)] = true := by decide +kernel
theorem e_hx_Sheet_hasRoom_23 : decode b_Sheet_hasRoom 23 = .ok (.if_icmp .gt 7, 3) := by decide +kernel
theorem f_hx_Sheet_hasRoom_26_2 : mblkB b_Sheet_hasRoom [(26, .iconst 1, vi 1), (27, .goto 4, vi 31)] = true := by decide +kernel
set_option maxHeartbeats 4000000 in
set_option maxRecDepth 20000 in
theorem hx_Sheet_hasRoom  : ∀ (l : Launch) (D : va_G) (B : Nat) (H0 : Heap) (G : tG) (A : mA) (o : Nat) (a0 : Int) (a1 : Int) (h_o : G o = some 5)  (r9 : Int) (A9 : mA), f_Sheet_hasRoom  A o a0 a1 = some (r9, A9) → hMet l D B H0 G y_Sheet_hasRoom b_Sheet_hasRoom 3 (some .boolean) 0 0 [vr 5 o, vi a0, vi a1] A (fun v A' => v = some (vi r9) ∧ A' = A9) := by
  intro l D B H0 G A o a0 a1 h_o r9 A9 h
  refine h_met (by decide) rfl (fun g q C Rm Y E => ?_)
  show HM g D G q A 0 [(0, vr 5 o), (1, vi a0), (2, vi a1)] []
  unfold f_Sheet_hasRoom at h
  refine h_blk 1 [(0, vr 5 o), (1, vi a0), (2, vi a1)] [vi a1] C f_hx_Sheet_hasRoom_0_1 rfl ?_
  obtain ⟨c1, h⟩ := igd h
  refine h_if_lt (tgt := 30) C e_hx_Sheet_hasRoom_1 (by decide) c1 (fun c2 => ?_) (fun c2 => ?_)
  · have h := ifp c2 h
    refine h_blk 31 [(0, vr 5 o), (1, vi a0), (2, vi a1)] [vi 0] C f_hx_Sheet_hasRoom_30_1 rfl ?_
    exact h_zret C Rm E (Or.inl rfl) e_hx_Sheet_hasRoom_31 (fin1 h)
  · have h := ifn c2 h
    refine h_blk 6 [(0, vr 5 o), (1, vi a0), (2, vi a1)] [vr 5 o, vi a1] C f_hx_Sheet_hasRoom_4_2 rfl ?_
    refine h_geti C e_hx_Sheet_hasRoom_6 fg_Sheet_19 h_o rfl rfl rfl (A 5 o 2) rfl ?_
    obtain ⟨c3, h⟩ := igd h
    refine h_icmp_gt (tgt := 30) C e_hx_Sheet_hasRoom_9 (by decide) c1 c3 (fun c4 => ?_) (fun c4 => ?_)
    · have h := ifp c4 h
      refine h_blk 31 [(0, vr 5 o), (1, vi a0), (2, vi a1)] [vi 0] C f_hx_Sheet_hasRoom_30_1 rfl ?_
      exact h_zret C Rm E (Or.inl rfl) e_hx_Sheet_hasRoom_31 (fin1 h)
    · have h := ifn c4 h
      refine h_blk 13 [(0, vr 5 o), (1, vi a0), (2, vi a1)] [vi a0] C f_hx_Sheet_hasRoom_12_1 rfl ?_
      obtain ⟨c5, h⟩ := igd h
      refine h_if_lt (tgt := 30) C e_hx_Sheet_hasRoom_13 (by decide) c5 (fun c6 => ?_) (fun c6 => ?_)
      · have h := ifp c6 h
        refine h_blk 31 [(0, vr 5 o), (1, vi a0), (2, vi a1)] [vi 0] C f_hx_Sheet_hasRoom_30_1 rfl ?_
        exact h_zret C Rm E (Or.inl rfl) e_hx_Sheet_hasRoom_31 (fin1 h)
      · have h := ifn c6 h
        refine h_blk 18 [(0, vr 5 o), (1, vi a0), (2, vi a1)] [vr 5 o, vi a0] C f_hx_Sheet_hasRoom_16_2 rfl ?_
        refine h_geti C e_hx_Sheet_hasRoom_18 fg_Sheet_19 h_o rfl rfl rfl (A 5 o 2) rfl ?_
        refine h_blk 23 [(0, vr 5 o), (1, vi a0), (2, vi a1)] [vi ((A 5 o 2) - a1), vi a0] C f_hx_Sheet_hasRoom_21_2 rfl ?_
        obtain ⟨c7, h⟩ := igd h
        refine h_icmp_gt (tgt := 30) C e_hx_Sheet_hasRoom_23 (by decide) c5 c7 (fun c8 => ?_) (fun c8 => ?_)
        · have h := ifp c8 h
          refine h_blk 31 [(0, vr 5 o), (1, vi a0), (2, vi a1)] [vi 0] C f_hx_Sheet_hasRoom_30_1 rfl ?_
          exact h_zret C Rm E (Or.inl rfl) e_hx_Sheet_hasRoom_31 (fin1 h)
        · have h := ifn c8 h
          refine h_blk 31 [(0, vr 5 o), (1, vi a0), (2, vi a1)] [vi 1] C f_hx_Sheet_hasRoom_26_2 rfl ?_
          exact h_zret C Rm E (Or.inr rfl) e_hx_Sheet_hasRoom_31 (fin1 h)

def f_CS_foldedBy (A : mA) (a0 : Int) (a1 : Int) : Option (Int × mA) := (if g32 a0 then (if a0 = 0 then (if g32 a1 then (some (a1, A)) else none) else if a0 = 1 then (if g32 (a1 * a1) then (some ((a1 * a1), A)) else none) else if a0 = 2 then (if g32 a1 then (if g32 (1 - (Int.tmod a1 2)) then (some ((1 - (Int.tmod a1 2)), A)) else none) else none) else if a0 = 3 then (if g32 ((a1 * a1) * a1) then (some (((a1 * a1) * a1), A)) else none) else if a0 = 4 then (if g32 a1 then (if g32 (Int.tmod a1 2) then (some ((Int.tmod a1 2), A)) else none) else none) else (if g32 (9 - a1) then (some ((9 - a1), A)) else none)) else none)
theorem f_hx_CS_foldedBy_0_1 : mblkB b_CS_foldedBy [(0, .iload_n 0, vi 0)] = true := by decide +kernel
theorem e_hx_CS_foldedBy_1 : decode b_CS_foldedBy 1 = .ok (.tableswitch 62 0 4 #[35, 38, 43, 50, 57], 35) := by decide +kernel
theorem f_hx_CS_foldedBy_36_1 : mblkB b_CS_foldedBy [(36, .iload_n 1, vi 0)] = true := by decide +kernel
theorem e_hx_CS_foldedBy_37 : decode b_CS_foldedBy 37 = .ok (.i2l, 1) := by decide +kernel
theorem e_hx_CS_foldedBy_38 : decode b_CS_foldedBy 38 = .ok (.lreturn, 1) := by decide +kernel
theorem f_hx_CS_foldedBy_39_3 : mblkB b_CS_foldedBy [(39, .iload_n 1, vi 0), (40, .iload_n 1, vi 0), (41, .imul, vi 0)] = true := by decide +kernel
theorem e_hx_CS_foldedBy_42 : decode b_CS_foldedBy 42 = .ok (.i2l, 1) := by decide +kernel
theorem e_hx_CS_foldedBy_43 : decode b_CS_foldedBy 43 = .ok (.lreturn, 1) := by decide +kernel
theorem f_hx_CS_foldedBy_44_3 : mblkB b_CS_foldedBy [(44, .iconst 1, vi 1), (45, .iload_n 1, vi 0), (46, .iconst 2, vi 2)] = true := by decide +kernel
theorem e_hx_CS_foldedBy_47 : decode b_CS_foldedBy 47 = .ok (.irem, 1) := by decide +kernel
theorem f_hx_CS_foldedBy_48_1 : mblkB b_CS_foldedBy [(48, .isub, vi 0)] = true := by decide +kernel
theorem e_hx_CS_foldedBy_49 : decode b_CS_foldedBy 49 = .ok (.i2l, 1) := by decide +kernel
theorem e_hx_CS_foldedBy_50 : decode b_CS_foldedBy 50 = .ok (.lreturn, 1) := by decide +kernel
theorem f_hx_CS_foldedBy_51_5 : mblkB b_CS_foldedBy [(51, .iload_n 1, vi 0), (52, .iload_n 1, vi 0), (53, .imul, vi 0), (54, .iload_n 1, vi 0), (55, .imul, vi 0)] = true := by decide +kernel
theorem e_hx_CS_foldedBy_56 : decode b_CS_foldedBy 56 = .ok (.i2l, 1) := by decide +kernel
theorem e_hx_CS_foldedBy_57 : decode b_CS_foldedBy 57 = .ok (.lreturn, 1) := by decide +kernel
theorem f_hx_CS_foldedBy_58_2 : mblkB b_CS_foldedBy [(58, .iload_n 1, vi 0), (59, .iconst 2, vi 2)] = true := by decide +kernel
theorem e_hx_CS_foldedBy_60 : decode b_CS_foldedBy 60 = .ok (.irem, 1) := by decide +kernel
theorem e_hx_CS_foldedBy_61 : decode b_CS_foldedBy 61 = .ok (.i2l, 1) := by decide +kernel
theorem e_hx_CS_foldedBy_62 : decode b_CS_foldedBy 62 = .ok (.lreturn, 1) := by decide +kernel
theorem f_hx_CS_foldedBy_63_3 : mblkB b_CS_foldedBy [(63, .bipush 9, vi 9), (65, .iload_n 1, vi 0), (66, .isub, vi 0)] = true := by decide +kernel
theorem e_hx_CS_foldedBy_67 : decode b_CS_foldedBy 67 = .ok (.i2l, 1) := by decide +kernel
theorem e_hx_CS_foldedBy_68 : decode b_CS_foldedBy 68 = .ok (.lreturn, 1) := by decide +kernel
set_option maxHeartbeats 4000000 in
set_option maxRecDepth 20000 in
theorem hx_CS_foldedBy  : ∀ (l : Launch) (D : va_G) (B : Nat) (H0 : Heap) (G : tG) (A : mA) (a0 : Int) (a1 : Int)  (r9 : Int) (A9 : mA), f_CS_foldedBy  A a0 a1 = some (r9, A9) → hMet l D B H0 G y_CS_foldedBy b_CS_foldedBy 2 (some .long) 0 0 [vi a0, vi a1] A (fun v A' => v = some (vl r9) ∧ A' = A9) := by
  intro l D B H0 G A a0 a1  r9 A9 h
  refine h_met (by decide) rfl (fun g q C Rm Y E => ?_)
  show HM g D G q A 0 [(0, vi a0), (1, vi a1)] []
  unfold f_CS_foldedBy at h
  refine h_blk 1 [(0, vi a0), (1, vi a1)] [vi a0] C f_hx_CS_foldedBy_0_1 rfl ?_
  obtain ⟨c1, h⟩ := igd h
  by_cases c2 : a0 = 0
  · have h := ifp c2 h
    refine h_tabIn (tgt := 36) C e_hx_CS_foldedBy_1 c1 (by omega) (by omega) (by rw [c2]; rfl) (by decide) ?_
    refine h_blk 37 [(0, vi a0), (1, vi a1)] [vi a1] C f_hx_CS_foldedBy_36_1 rfl ?_
    obtain ⟨c3, h⟩ := igd h
    refine h_i2l C e_hx_CS_foldedBy_37 c3 ?_
    exact h_lret C Rm E e_hx_CS_foldedBy_38 (finL h)
  have h := ifn c2 h
  by_cases c4 : a0 = 1
  · have h := ifp c4 h
    refine h_tabIn (tgt := 39) C e_hx_CS_foldedBy_1 c1 (by omega) (by omega) (by rw [c4]; rfl) (by decide) ?_
    refine h_blk 42 [(0, vi a0), (1, vi a1)] [vi (a1 * a1)] C f_hx_CS_foldedBy_39_3 rfl ?_
    obtain ⟨c5, h⟩ := igd h
    refine h_i2l C e_hx_CS_foldedBy_42 c5 ?_
    exact h_lret C Rm E e_hx_CS_foldedBy_43 (finL h)
  have h := ifn c4 h
  by_cases c6 : a0 = 2
  · have h := ifp c6 h
    refine h_tabIn (tgt := 44) C e_hx_CS_foldedBy_1 c1 (by omega) (by omega) (by rw [c6]; rfl) (by decide) ?_
    refine h_blk 47 [(0, vi a0), (1, vi a1)] [vi 2, vi a1, vi 1] C f_hx_CS_foldedBy_44_3 rfl ?_
    obtain ⟨c7, h⟩ := igd h
    refine h_irem C e_hx_CS_foldedBy_47 c7 (by decide) (by decide) ?_
    refine h_blk 49 [(0, vi a0), (1, vi a1)] [vi (1 - (Int.tmod a1 2))] C f_hx_CS_foldedBy_48_1 rfl ?_
    obtain ⟨c8, h⟩ := igd h
    refine h_i2l C e_hx_CS_foldedBy_49 c8 ?_
    exact h_lret C Rm E e_hx_CS_foldedBy_50 (finL h)
  have h := ifn c6 h
  by_cases c9 : a0 = 3
  · have h := ifp c9 h
    refine h_tabIn (tgt := 51) C e_hx_CS_foldedBy_1 c1 (by omega) (by omega) (by rw [c9]; rfl) (by decide) ?_
    refine h_blk 56 [(0, vi a0), (1, vi a1)] [vi ((a1 * a1) * a1)] C f_hx_CS_foldedBy_51_5 rfl ?_
    obtain ⟨c10, h⟩ := igd h
    refine h_i2l C e_hx_CS_foldedBy_56 c10 ?_
    exact h_lret C Rm E e_hx_CS_foldedBy_57 (finL h)
  have h := ifn c9 h
  by_cases c11 : a0 = 4
  · have h := ifp c11 h
    refine h_tabIn (tgt := 58) C e_hx_CS_foldedBy_1 c1 (by omega) (by omega) (by rw [c11]; rfl) (by decide) ?_
    refine h_blk 60 [(0, vi a0), (1, vi a1)] [vi 2, vi a1] C f_hx_CS_foldedBy_58_2 rfl ?_
    obtain ⟨c12, h⟩ := igd h
    refine h_irem C e_hx_CS_foldedBy_60 c12 (by decide) (by decide) ?_
    obtain ⟨c13, h⟩ := igd h
    refine h_i2l C e_hx_CS_foldedBy_61 c13 ?_
    exact h_lret C Rm E e_hx_CS_foldedBy_62 (finL h)
  have h := ifn c11 h
  refine h_tabOut (tgt := 63) C e_hx_CS_foldedBy_1 c1 (by omega) (by decide) ?_
  refine h_blk 67 [(0, vi a0), (1, vi a1)] [vi (9 - a1)] C f_hx_CS_foldedBy_63_3 rfl ?_
  obtain ⟨c14, h⟩ := igd h
  refine h_i2l C e_hx_CS_foldedBy_67 c14 ?_
  exact h_lret C Rm E e_hx_CS_foldedBy_68 (finL h)

def f_CS_isSameRatio (A : mA) (a0 : Int) (a1 : Int) (a2 : Int) (a3 : Int) : Option (Int × mA) := (Option.bind (f_CS_partOf A a0 a1 0) (fun q1 => (Option.bind (f_CS_partOf q1.2 a2 a3 0) (fun q3 => (if g64 q1.1 then (if g64 q3.1 then (if (lc q1.1 q3.1) = 0 then (Option.bind (f_CS_partOf q3.2 a0 a1 1) (fun q9 => (Option.bind (f_CS_partOf q9.2 a2 a3 1) (fun q11 => (if g64 q9.1 then (if g64 q11.1 then (if (lc q9.1 q11.1) = 0 then (some (1, q11.2)) else (some (0, q11.2))) else none) else none))))) else (some (0, q3.2))) else none) else none)))))
theorem f_hx_CS_isSameRatio_0_3 : mblkB b_CS_isSameRatio [(0, .lload_n 0, vi 0), (1, .lload_n 2, vi 0), (2, .iconst 0, vi 0)] = true := by decide +kernel
theorem e_hx_CS_isSameRatio_3 : decode b_CS_isSameRatio 3 = .ok (.invokestatic 151, 3) := by decide +kernel
theorem f_hx_CS_isSameRatio_6_3 : mblkB b_CS_isSameRatio [(6, .lload 4, vi 0), (8, .lload 6, vi 0), (10, .iconst 0, vi 0)] = true := by decide +kernel
theorem e_hx_CS_isSameRatio_11 : decode b_CS_isSameRatio 11 = .ok (.invokestatic 151, 3) := by decide +kernel
theorem e_hx_CS_isSameRatio_14 : decode b_CS_isSameRatio 14 = .ok (.lcmp, 1) := by decide +kernel
theorem e_hx_CS_isSameRatio_15 : decode b_CS_isSameRatio 15 = .ok (.ifCond .ne 25, 3) := by decide +kernel
theorem f_hx_CS_isSameRatio_40_1 : mblkB b_CS_isSameRatio [(40, .iconst 0, vi 0)] = true := by decide +kernel
theorem e_hx_CS_isSameRatio_41 : decode b_CS_isSameRatio 41 = .ok (.ireturn, 1) := by decide +kernel
theorem f_hx_CS_isSameRatio_18_3 : mblkB b_CS_isSameRatio [(18, .lload_n 0, vi 0), (19, .lload_n 2, vi 0), (20, .iconst 1, vi 1)] = true := by decide +kernel
theorem e_hx_CS_isSameRatio_21 : decode b_CS_isSameRatio 21 = .ok (.invokestatic 151, 3) := by decide +kernel
theorem f_hx_CS_isSameRatio_24_3 : mblkB b_CS_isSameRatio [(24, .lload 4, vi 0), (26, .lload 6, vi 0), (28, .iconst 1, vi 1)] = true := by decide +kernel
theorem e_hx_CS_isSameRatio_29 : decode b_CS_isSameRatio 29 = .ok (.invokestatic 151, 3) := by decide +kernel
theorem e_hx_CS_isSameRatio_32 : decode b_CS_isSameRatio 32 = .ok (.lcmp, 1) := by decide +kernel
theorem e_hx_CS_isSameRatio_33 : decode b_CS_isSameRatio 33 = .ok (.ifCond .ne 7, 3) := by decide +kernel
theorem f_hx_CS_isSameRatio_36_2 : mblkB b_CS_isSameRatio [(36, .iconst 1, vi 1), (37, .goto 4, vi 41)] = true := by decide +kernel
set_option maxHeartbeats 4000000 in
set_option maxRecDepth 20000 in
theorem hx_CS_isSameRatio  : ∀ (l : Launch) (D : va_G) (B : Nat) (H0 : Heap) (G : tG) (A : mA) (a0 : Int) (a1 : Int) (a2 : Int) (a3 : Int)  (r9 : Int) (A9 : mA), f_CS_isSameRatio  A a0 a1 a2 a3 = some (r9, A9) → hMet l D B H0 G y_CS_isSameRatio b_CS_isSameRatio 8 (some .boolean) 2 56 [vl a0, vl a1, vl a2, vl a3] A (fun v A' => v = some (vi r9) ∧ A' = A9) := by
  intro l D B H0 G A a0 a1 a2 a3  r9 A9 h
  refine h_met (by decide) rfl (fun g q C Rm Y E => ?_)
  show HM g D G q A 0 [(0, vl a0), (2, vl a1), (4, vl a2), (6, vl a3)] []
  unfold f_CS_isSameRatio at h
  refine h_blk 3 [(0, vl a0), (2, vl a1), (4, vl a2), (6, vl a3)] [vi 0, vl a1, vl a0] C f_hx_CS_isSameRatio_0_3 rfl ?_
  obtain ⟨q1, e2, h⟩ := obd h
  refine h_callS C Rm Y [vl a0, vl a1, vi 0] [] (hx_CS_partOf l D B H0 G _ a0 a1 0 _ _ e2) cl_CS_151 e_hx_CS_isSameRatio_3 rfl rfl rfl ⟨by decide, by decide⟩ ?_
  rintro _ _ ⟨rfl, rfl⟩
  show HM g D G q q1.2 6 [(0, vl a0), (2, vl a1), (4, vl a2), (6, vl a3)] [vl q1.1]
  refine h_blk 11 [(0, vl a0), (2, vl a1), (4, vl a2), (6, vl a3)] [vi 0, vl a3, vl a2, vl q1.1] C f_hx_CS_isSameRatio_6_3 rfl ?_
  obtain ⟨q3, e4, h⟩ := obd h
  refine h_callS C Rm Y [vl a2, vl a3, vi 0] [vl q1.1] (hx_CS_partOf l D B H0 G _ a2 a3 0 _ _ e4) cl_CS_151 e_hx_CS_isSameRatio_11 rfl rfl rfl ⟨by decide, by decide⟩ ?_
  rintro _ _ ⟨rfl, rfl⟩
  show HM g D G q q3.2 14 [(0, vl a0), (2, vl a1), (4, vl a2), (6, vl a3)] [vl q3.1, vl q1.1]
  obtain ⟨c5, h⟩ := igd h
  obtain ⟨c6, h⟩ := igd h
  refine h_lcmp C e_hx_CS_isSameRatio_14 c5 c6 (fun z7 hz7 => ?_)
  obtain rfl : z7 = lc q1.1 q3.1 := lc_of hz7
  refine h_if_ne (tgt := 40) C e_hx_CS_isSameRatio_15 (by decide) lc_r (fun c8 => ?_) (fun c8 => ?_)
  · have h := ifn c8 h
    refine h_blk 41 [(0, vl a0), (2, vl a1), (4, vl a2), (6, vl a3)] [vi 0] C f_hx_CS_isSameRatio_40_1 rfl ?_
    exact h_zret C Rm E (Or.inl rfl) e_hx_CS_isSameRatio_41 (fin1 h)
  · have h := ifp c8 h
    refine h_blk 21 [(0, vl a0), (2, vl a1), (4, vl a2), (6, vl a3)] [vi 1, vl a1, vl a0] C f_hx_CS_isSameRatio_18_3 rfl ?_
    obtain ⟨q9, e10, h⟩ := obd h
    refine h_callS C Rm Y [vl a0, vl a1, vi 1] [] (hx_CS_partOf l D B H0 G _ a0 a1 1 _ _ e10) cl_CS_151 e_hx_CS_isSameRatio_21 rfl rfl rfl ⟨by decide, by decide⟩ ?_
    rintro _ _ ⟨rfl, rfl⟩
    show HM g D G q q9.2 24 [(0, vl a0), (2, vl a1), (4, vl a2), (6, vl a3)] [vl q9.1]
    refine h_blk 29 [(0, vl a0), (2, vl a1), (4, vl a2), (6, vl a3)] [vi 1, vl a3, vl a2, vl q9.1] C f_hx_CS_isSameRatio_24_3 rfl ?_
    obtain ⟨q11, e12, h⟩ := obd h
    refine h_callS C Rm Y [vl a2, vl a3, vi 1] [vl q9.1] (hx_CS_partOf l D B H0 G _ a2 a3 1 _ _ e12) cl_CS_151 e_hx_CS_isSameRatio_29 rfl rfl rfl ⟨by decide, by decide⟩ ?_
    rintro _ _ ⟨rfl, rfl⟩
    show HM g D G q q11.2 32 [(0, vl a0), (2, vl a1), (4, vl a2), (6, vl a3)] [vl q11.1, vl q9.1]
    obtain ⟨c13, h⟩ := igd h
    obtain ⟨c14, h⟩ := igd h
    refine h_lcmp C e_hx_CS_isSameRatio_32 c13 c14 (fun z15 hz15 => ?_)
    obtain rfl : z15 = lc q9.1 q11.1 := lc_of hz15
    refine h_if_ne (tgt := 40) C e_hx_CS_isSameRatio_33 (by decide) lc_r (fun c16 => ?_) (fun c16 => ?_)
    · have h := ifn c16 h
      refine h_blk 41 [(0, vl a0), (2, vl a1), (4, vl a2), (6, vl a3)] [vi 0] C f_hx_CS_isSameRatio_40_1 rfl ?_
      exact h_zret C Rm E (Or.inl rfl) e_hx_CS_isSameRatio_41 (fin1 h)
    · have h := ifp c16 h
      refine h_blk 41 [(0, vl a0), (2, vl a1), (4, vl a2), (6, vl a3)] [vi 1] C f_hx_CS_isSameRatio_36_2 rfl ?_
      exact h_zret C Rm E (Or.inr rfl) e_hx_CS_isSameRatio_41 (fin1 h)

def f_CS_hundredths (A : mA) (a0 : Int) (a1 : Int) : Option (Int × mA) := (if g64 a1 then (if (lc a1 0) = 0 then (some (0, A)) else (if g64 (100 * a0) then (if a1 ≠ 0 then (some ((Int.tdiv (100 * a0) a1), A)) else none) else none)) else none)
theorem f_hx_CS_hundredths_0_2 : mblkB b_CS_hundredths [(0, .lload_n 2, vi 0), (1, .lconst 0, vl 0)] = true := by decide +kernel
theorem e_hx_CS_hundredths_2 : decode b_CS_hundredths 2 = .ok (.lcmp, 1) := by decide +kernel
theorem e_hx_CS_hundredths_3 : decode b_CS_hundredths 3 = .ok (.ifCond .ne 7, 3) := by decide +kernel
theorem e_hx_CS_hundredths_10 : decode b_CS_hundredths 10 = .ok (.ldc2_w 267, 3) := by decide +kernel
theorem f_hx_CS_hundredths_13_3 : mblkB b_CS_hundredths [(13, .lload_n 0, vi 0), (14, .lmul, vi 0), (15, .lload_n 2, vi 0)] = true := by decide +kernel
theorem e_hx_CS_hundredths_16 : decode b_CS_hundredths 16 = .ok (.ldiv, 1) := by decide +kernel
theorem f_hx_CS_hundredths_17_1 : mblkB b_CS_hundredths [(17, .l2i, vi 0)] = true := by decide +kernel
theorem e_hx_CS_hundredths_18 : decode b_CS_hundredths 18 = .ok (.ireturn, 1) := by decide +kernel
theorem f_hx_CS_hundredths_6_2 : mblkB b_CS_hundredths [(6, .iconst 0, vi 0), (7, .goto 11, vi 18)] = true := by decide +kernel
set_option maxHeartbeats 4000000 in
set_option maxRecDepth 20000 in
theorem hx_CS_hundredths  : ∀ (l : Launch) (D : va_G) (B : Nat) (H0 : Heap) (G : tG) (A : mA) (a0 : Int) (a1 : Int)  (r9 : Int) (A9 : mA), f_CS_hundredths  A a0 a1 = some (r9, A9) → hMet l D B H0 G y_CS_hundredths b_CS_hundredths 4 (some .int) 0 0 [vl a0, vl a1] A (fun v A' => v = some (vi r9) ∧ A' = A9) := by
  intro l D B H0 G A a0 a1  r9 A9 h
  refine h_met (by decide) rfl (fun g q C Rm Y E => ?_)
  show HM g D G q A 0 [(0, vl a0), (2, vl a1)] []
  unfold f_CS_hundredths at h
  refine h_blk 2 [(0, vl a0), (2, vl a1)] [vl 0, vl a1] C f_hx_CS_hundredths_0_2 rfl ?_
  obtain ⟨c1, h⟩ := igd h
  refine h_lcmp C e_hx_CS_hundredths_2 c1 (by decide) (fun z2 hz2 => ?_)
  obtain rfl : z2 = lc a1 0 := lc_of hz2
  refine h_if_ne (tgt := 10) C e_hx_CS_hundredths_3 (by decide) lc_r (fun c3 => ?_) (fun c3 => ?_)
  · have h := ifn c3 h
    refine h_ldc2 C 100 e_hx_CS_hundredths_10 ld_CS_267 (by decide) ?_
    refine h_blk 16 [(0, vl a0), (2, vl a1)] [vl a1, vl (100 * a0)] C f_hx_CS_hundredths_13_3 rfl ?_
    obtain ⟨c4, h⟩ := igd h
    obtain ⟨c5, h⟩ := igd h
    refine h_ldiv C e_hx_CS_hundredths_16 c4 c1 c5 ?_
    refine h_blk 18 [(0, vl a0), (2, vl a1)] [vi (Int.tdiv (100 * a0) a1)] C f_hx_CS_hundredths_17_1 rfl ?_
    exact h_iret C Rm E e_hx_CS_hundredths_18 (fin1 h)
  · have h := ifp c3 h
    refine h_blk 18 [(0, vl a0), (2, vl a1)] [vi 0] C f_hx_CS_hundredths_6_2 rfl ?_
    exact h_iret C Rm E e_hx_CS_hundredths_18 (fin1 h)

def f_CS_packed_6 : Nat → mA → Int → Int → Int → Option (Int × mA)
  | 0, _, _, _, _ => none
  | n + 1, A, b1, b2, b3 => (if g32 b3 then (if b3 < 0 then (some (b1, A)) else (if g32 b2 then (Option.bind (f_CS_shiftOf A b3) (fun q4 => (f_CS_packed_6  n q4.2 (iOr b1 (iShl (Int.tmod b2 10) q4.1)) (Int.tdiv b2 10) (b3 + (-1))))) else none)) else none)
def f_CS_packed (A : mA) (a0 : Int) : Option (Int × mA) := (f_CS_packed_6  20 A 0 a0 5)
theorem f_hx_CS_packed_0_6 : mblkB b_CS_packed [(0, .iconst 0, vi 0), (1, .istore_n 1, vi 0), (2, .iload_n 0, vi 0), (3, .istore_n 2, vi 0), (4, .iconst 5, vi 5), (5, .istore_n 3, vi 0)] = true := by decide +kernel
theorem f_hx_CS_packed_6_1 : mblkB b_CS_packed [(6, .iload_n 3, vi 0)] = true := by decide +kernel
theorem e_hx_CS_packed_7 : decode b_CS_packed 7 = .ok (.ifCond .lt 26, 3) := by decide +kernel
theorem f_hx_CS_packed_33_1 : mblkB b_CS_packed [(33, .iload_n 1, vi 0)] = true := by decide +kernel
theorem e_hx_CS_packed_34 : decode b_CS_packed 34 = .ok (.ireturn, 1) := by decide +kernel
theorem f_hx_CS_packed_10_3 : mblkB b_CS_packed [(10, .iload_n 1, vi 0), (11, .iload_n 2, vi 0), (12, .bipush 10, vi 10)] = true := by decide +kernel
theorem e_hx_CS_packed_14 : decode b_CS_packed 14 = .ok (.irem, 1) := by decide +kernel
theorem f_hx_CS_packed_15_1 : mblkB b_CS_packed [(15, .iload_n 3, vi 0)] = true := by decide +kernel
theorem e_hx_CS_packed_16 : decode b_CS_packed 16 = .ok (.invokestatic 269, 3) := by decide +kernel
theorem f_hx_CS_packed_19_5 : mblkB b_CS_packed [(19, .ishl, vi 0), (20, .ior, vi 0), (21, .istore_n 1, vi 0), (22, .iload_n 2, vi 0), (23, .bipush 10, vi 10)] = true := by decide +kernel
theorem e_hx_CS_packed_25 : decode b_CS_packed 25 = .ok (.idiv, 1) := by decide +kernel
theorem f_hx_CS_packed_26_3 : mblkB b_CS_packed [(26, .istore_n 2, vi 0), (27, .iinc 3 (-1), vi (-1)), (30, .goto (-24), vi 6)] = true := by decide +kernel
set_option maxHeartbeats 4000000 in
set_option maxRecDepth 20000 in
theorem hx_CS_packed  : ∀ (l : Launch) (D : va_G) (B : Nat) (H0 : Heap) (G : tG) (A : mA) (a0 : Int)  (r9 : Int) (A9 : mA), f_CS_packed  A a0 = some (r9, A9) → hMet l D B H0 G y_CS_packed b_CS_packed 4 (some .int) 1 20 [vi a0] A (fun v A' => v = some (vi r9) ∧ A' = A9) := by
  intro l D B H0 G A a0  r9 A9 h
  refine h_met (by decide) rfl (fun g q C Rm Y E => ?_)
  have hd_6 : ∀ (n : Nat) (A : mA) (b1 : Int) (b2 : Int) (b3 : Int) , f_CS_packed_6  n A b1 b2 b3 = some (r9, A9) → HM g D G q A 6 [(1, vi b1), (2, vi b2), (3, vi b3)] [] := by
    intro n
    induction n with
    | zero => intro A b1 b2 b3  h; cases h
    | succ n ih =>
      intro A b1 b2 b3  h
      unfold f_CS_packed_6 at h
      refine h_blk 7 [(1, vi b1), (2, vi b2), (3, vi b3)] [vi b3] C f_hx_CS_packed_6_1 rfl ?_
      obtain ⟨c1, h⟩ := igd h
      refine h_if_lt (tgt := 33) C e_hx_CS_packed_7 (by decide) c1 (fun c2 => ?_) (fun c2 => ?_)
      · have h := ifp c2 h
        refine h_blk 34 [(1, vi b1), (2, vi b2), (3, vi b3)] [vi b1] C f_hx_CS_packed_33_1 rfl ?_
        exact h_iret C Rm E e_hx_CS_packed_34 (fin1 h)
      · have h := ifn c2 h
        refine h_blk 14 [(1, vi b1), (2, vi b2), (3, vi b3)] [vi 10, vi b2, vi b1] C f_hx_CS_packed_10_3 rfl ?_
        obtain ⟨c3, h⟩ := igd h
        refine h_irem C e_hx_CS_packed_14 c3 (by decide) (by decide) ?_
        refine h_blk 16 [(1, vi b1), (2, vi b2), (3, vi b3)] [vi b3, vi (Int.tmod b2 10), vi b1] C f_hx_CS_packed_15_1 rfl ?_
        obtain ⟨q4, e5, h⟩ := obd h
        refine h_callS C Rm Y [vi b3] [vi (Int.tmod b2 10), vi b1] (hx_CS_shiftOf l D B H0 G _ b3 _ _ e5) cl_CS_269 e_hx_CS_packed_16 rfl rfl rfl ⟨by decide, by decide⟩ ?_
        rintro _ _ ⟨rfl, rfl⟩
        show HM g D G q q4.2 19 [(1, vi b1), (2, vi b2), (3, vi b3)] [vi q4.1, vi (Int.tmod b2 10), vi b1]
        refine h_blk 25 [(1, vi (iOr b1 (iShl (Int.tmod b2 10) q4.1))), (2, vi b2), (3, vi b3)] [vi 10, vi b2] C f_hx_CS_packed_19_5 rfl ?_
        refine h_idiv C e_hx_CS_packed_25 c3 (by decide) (by decide) ?_
        refine h_blk 6 [(3, vi (b3 + (-1))), (2, vi (Int.tdiv b2 10)), (1, vi (iOr b1 (iShl (Int.tmod b2 10) q4.1)))] [] C f_hx_CS_packed_26_3 rfl ?_
        refine h_loc [(1, vi (iOr b1 (iShl (Int.tmod b2 10) q4.1))), (2, vi (Int.tdiv b2 10)), (3, vi (b3 + (-1)))] ⟨rfl, rfl, rfl, trivial⟩ ?_
        exact ih q4.2 (iOr b1 (iShl (Int.tmod b2 10) q4.1)) (Int.tdiv b2 10) (b3 + (-1))  h
  show HM g D G q A 0 [(0, vi a0)] []
  unfold f_CS_packed at h
  refine h_blk 6 [(3, vi 5), (2, vi a0), (1, vi 0), (0, vi a0)] [] C f_hx_CS_packed_0_6 rfl ?_
  refine h_loc [(1, vi 0), (2, vi a0), (3, vi 5)] ⟨rfl, rfl, rfl, trivial⟩ ?_
  exact hd_6 _ A 0 a0 5  h

def f_CS_firstOtherwise_12 : Nat → mA → Nat → Nat → Nat → Int → Option (Int × mA)
  | 0, _, _, _, _, _ => none
  | n + 1, A, b0, b1, b2, b4 => (if g32 b4 then (if 10 ≤ b4 then (some ((-1), A)) else (if g32 (A 5 b1 2) then (if (A 5 b1 2) ≤ b4 then (some ((-1), A)) else (if (0 ≤ b4 ∧ b4 < ((40 : Nat) : Int)) then (if (0 ≤ b4 ∧ b4 < ((10 : Nat) : Int)) then (Option.bind (f_Crowd_weight A b2) (fun q9 => (Option.bind (f_CS_hundredths q9.2 (A 23 ((A 8 b0 11).toNat) b4.toNat) q9.1) (fun q11 => (if g32 (A 24 ((A 5 b1 0).toNat) b4.toNat) then if g32 q11.1 then (if (A 24 ((A 5 b1 0).toNat) b4.toNat) = q11.1 then (f_CS_firstOtherwise_12  n q11.2 b0 b1 b2 (b4 + 1)) else (some (b4, q11.2))) else none else none))))) else none) else none)) else none)) else none)
def f_CS_firstOtherwise (A : mA) (o : Nat) (a0 : Nat) (a1 : Nat) (a2 : Int) : Option (Int × mA) := (Option.bind (f_Crowd_spread A a1 a2 ((A 8 o 11).toNat)) (fun q17 => (f_CS_firstOtherwise_12  400 q17.2 o a0 a1 0)))
theorem f_hx_CS_firstOtherwise_0_3 : mblkB b_CS_firstOtherwise [(0, .aload_n 2, vi 0), (1, .iload_n 3, vi 0), (2, .aload_n 0, vi 0)] = true := by decide +kernel
theorem e_hx_CS_firstOtherwise_3 : decode b_CS_firstOtherwise 3 = .ok (.getfield 39, 3) := by decide +kernel
theorem e_hx_CS_firstOtherwise_6 : decode b_CS_firstOtherwise 6 = .ok (.invokevirtual 155, 3) := by decide +kernel
theorem f_hx_CS_firstOtherwise_9_2 : mblkB b_CS_firstOtherwise [(9, .iconst 0, vi 0), (10, .istore 4, vi 0)] = true := by decide +kernel
theorem f_hx_CS_firstOtherwise_12_2 : mblkB b_CS_firstOtherwise [(12, .iload 4, vi 0), (14, .bipush 10, vi 10)] = true := by decide +kernel
theorem e_hx_CS_firstOtherwise_16 : decode b_CS_firstOtherwise 16 = .ok (.if_icmp .ge 45, 3) := by decide +kernel
theorem f_hx_CS_firstOtherwise_61_1 : mblkB b_CS_firstOtherwise [(61, .iconst (-1), vi (-1))] = true := by decide +kernel
theorem e_hx_CS_firstOtherwise_62 : decode b_CS_firstOtherwise 62 = .ok (.ireturn, 1) := by decide +kernel
theorem f_hx_CS_firstOtherwise_19_2 : mblkB b_CS_firstOtherwise [(19, .iload 4, vi 0), (21, .aload_n 1, vi 0)] = true := by decide +kernel
theorem e_hx_CS_firstOtherwise_22 : decode b_CS_firstOtherwise 22 = .ok (.getfield 206, 3) := by decide +kernel
theorem e_hx_CS_firstOtherwise_25 : decode b_CS_firstOtherwise 25 = .ok (.if_icmp .ge 36, 3) := by decide +kernel
theorem f_hx_CS_firstOtherwise_28_1 : mblkB b_CS_firstOtherwise [(28, .aload_n 1, vi 0)] = true := by decide +kernel
theorem e_hx_CS_firstOtherwise_29 : decode b_CS_firstOtherwise 29 = .ok (.getfield 246, 3) := by decide +kernel
theorem f_hx_CS_firstOtherwise_32_1 : mblkB b_CS_firstOtherwise [(32, .iload 4, vi 0)] = true := by decide +kernel
theorem e_hx_CS_firstOtherwise_34 : decode b_CS_firstOtherwise 34 = .ok (.iaload, 1) := by decide +kernel
theorem f_hx_CS_firstOtherwise_35_1 : mblkB b_CS_firstOtherwise [(35, .aload_n 0, vi 0)] = true := by decide +kernel
theorem e_hx_CS_firstOtherwise_36 : decode b_CS_firstOtherwise 36 = .ok (.getfield 39, 3) := by decide +kernel
theorem f_hx_CS_firstOtherwise_39_1 : mblkB b_CS_firstOtherwise [(39, .iload 4, vi 0)] = true := by decide +kernel
theorem e_hx_CS_firstOtherwise_41 : decode b_CS_firstOtherwise 41 = .ok (.laload, 1) := by decide +kernel
theorem f_hx_CS_firstOtherwise_42_1 : mblkB b_CS_firstOtherwise [(42, .aload_n 2, vi 0)] = true := by decide +kernel
theorem e_hx_CS_firstOtherwise_43 : decode b_CS_firstOtherwise 43 = .ok (.invokevirtual 145, 3) := by decide +kernel
theorem e_hx_CS_firstOtherwise_46 : decode b_CS_firstOtherwise 46 = .ok (.invokestatic 227, 3) := by decide +kernel
theorem e_hx_CS_firstOtherwise_49 : decode b_CS_firstOtherwise 49 = .ok (.if_icmp .eq 6, 3) := by decide +kernel
theorem f_hx_CS_firstOtherwise_55_2 : mblkB b_CS_firstOtherwise [(55, .iinc 4 1, vi 1), (58, .goto (-46), vi 12)] = true := by decide +kernel
theorem f_hx_CS_firstOtherwise_52_1 : mblkB b_CS_firstOtherwise [(52, .iload 4, vi 0)] = true := by decide +kernel
theorem e_hx_CS_firstOtherwise_54 : decode b_CS_firstOtherwise 54 = .ok (.ireturn, 1) := by decide +kernel
set_option maxHeartbeats 4000000 in
set_option maxRecDepth 20000 in
theorem hx_CS_firstOtherwise  : ∀ (l : Launch) (D : va_G) (B : Nat) (H0 : Heap) (G : tG) (A : mA) (o : Nat) (a0 : Nat) (a1 : Nat) (a2 : Int) (h_o : G o = some 8) (h_a0 : G a0 = some 5) (h_a1 : G a1 = some 0)  (r9 : Int) (A9 : mA), f_CS_firstOtherwise  A o a0 a1 a2 = some (r9, A9) → hMet l D B H0 G y_CS_firstOtherwise b_CS_firstOtherwise 5 (some .int) 2 45 [vr 8 o, vr 5 a0, vr 0 a1, vi a2] A (fun v A' => v = some (vi r9) ∧ A' = A9) := by
  intro l D B H0 G A o a0 a1 a2 h_o h_a0 h_a1 r9 A9 h
  refine h_met (by decide) rfl (fun g q C Rm Y E => ?_)
  have hd_12 : ∀ (n : Nat) (A : mA) (b0 : Nat) (b1 : Nat) (b2 : Nat) (b4 : Int) , G b0 = some 8 → G b1 = some 5 → G b2 = some 0 → f_CS_firstOtherwise_12  n A b0 b1 b2 b4 = some (r9, A9) → HM g D G q A 12 [(0, vr 8 b0), (1, vr 5 b1), (2, vr 0 b2), (4, vi b4)] [] := by
    intro n
    induction n with
    | zero => intro A b0 b1 b2 b4 h_b0 h_b1 h_b2 h; cases h
    | succ n ih =>
      intro A b0 b1 b2 b4 h_b0 h_b1 h_b2 h
      unfold f_CS_firstOtherwise_12 at h
      refine h_blk 16 [(0, vr 8 b0), (1, vr 5 b1), (2, vr 0 b2), (4, vi b4)] [vi 10, vi b4] C f_hx_CS_firstOtherwise_12_2 rfl ?_
      obtain ⟨c1, h⟩ := igd h
      refine h_icmp_ge (tgt := 61) C e_hx_CS_firstOtherwise_16 (by decide) c1 (by decide) (fun c2 => ?_) (fun c2 => ?_)
      · have h := ifp c2 h
        refine h_blk 62 [(0, vr 8 b0), (1, vr 5 b1), (2, vr 0 b2), (4, vi b4)] [vi (-1)] C f_hx_CS_firstOtherwise_61_1 rfl ?_
        exact h_iret C Rm E e_hx_CS_firstOtherwise_62 (fin1 h)
      · have h := ifn c2 h
        refine h_blk 22 [(0, vr 8 b0), (1, vr 5 b1), (2, vr 0 b2), (4, vi b4)] [vr 5 b1, vi b4] C f_hx_CS_firstOtherwise_19_2 rfl ?_
        refine h_geti C e_hx_CS_firstOtherwise_22 fg_CS_206 h_b1 rfl rfl rfl (A 5 b1 2) rfl ?_
        obtain ⟨c3, h⟩ := igd h
        refine h_icmp_ge (tgt := 61) C e_hx_CS_firstOtherwise_25 (by decide) c1 c3 (fun c4 => ?_) (fun c4 => ?_)
        · have h := ifp c4 h
          refine h_blk 62 [(0, vr 8 b0), (1, vr 5 b1), (2, vr 0 b2), (4, vi b4)] [vi (-1)] C f_hx_CS_firstOtherwise_61_1 rfl ?_
          exact h_iret C Rm E e_hx_CS_firstOtherwise_62 (fin1 h)
        · have h := ifn c4 h
          refine h_blk 29 [(0, vr 8 b0), (1, vr 5 b1), (2, vr 0 b2), (4, vi b4)] [vr 5 b1] C f_hx_CS_firstOtherwise_28_1 rfl ?_
          refine h_getr4 C e_hx_CS_firstOtherwise_29 fg_CS_246 h_b1 rfl rfl rfl rfl (fun g5 => ?_)
          refine h_blk 34 [(0, vr 8 b0), (1, vr 5 b1), (2, vr 0 b2), (4, vi b4)] [vi b4, vr 24 ((A 5 b1 0).toNat)] C f_hx_CS_firstOtherwise_32_1 rfl ?_
          obtain ⟨c6, h⟩ := igd h
          refine h_iald C e_hx_CS_firstOtherwise_34 g5 rfl rfl (by decide) c6.1 c6.2 (A 24 ((A 5 b1 0).toNat) b4.toNat) rfl ?_
          refine h_blk 36 [(0, vr 8 b0), (1, vr 5 b1), (2, vr 0 b2), (4, vi b4)] [vr 8 b0, vi (A 24 ((A 5 b1 0).toNat) b4.toNat)] C f_hx_CS_firstOtherwise_35_1 rfl ?_
          refine h_getr4 C e_hx_CS_firstOtherwise_36 fg_CS_39 h_b0 rfl rfl rfl rfl (fun g7 => ?_)
          refine h_blk 41 [(0, vr 8 b0), (1, vr 5 b1), (2, vr 0 b2), (4, vi b4)] [vi b4, vr 23 ((A 8 b0 11).toNat), vi (A 24 ((A 5 b1 0).toNat) b4.toNat)] C f_hx_CS_firstOtherwise_39_1 rfl ?_
          obtain ⟨c8, h⟩ := igd h
          refine h_lald C e_hx_CS_firstOtherwise_41 g7 rfl rfl (by decide) c8.1 c8.2 (A 23 ((A 8 b0 11).toNat) b4.toNat) rfl ?_
          refine h_blk 43 [(0, vr 8 b0), (1, vr 5 b1), (2, vr 0 b2), (4, vi b4)] [vr 0 b2, vl (A 23 ((A 8 b0 11).toNat) b4.toNat), vi (A 24 ((A 5 b1 0).toNat) b4.toNat)] C f_hx_CS_firstOtherwise_42_1 rfl ?_
          obtain ⟨q9, e10, h⟩ := obd h
          refine h_callV C Rm Y [] [vl (A 23 ((A 8 b0 11).toNat) b4.toNat), vi (A 24 ((A 5 b1 0).toNat) b4.toNat)] (hx_Crowd_weight l D B H0 G _ b2 h_b2 _ _ e10) cl_CS_145 h_b2 rfl rfl rfl e_hx_CS_firstOtherwise_43 rfl rfl rfl ⟨by decide, by decide⟩ ?_
          rintro _ _ ⟨rfl, rfl⟩
          show HM g D G q q9.2 46 [(0, vr 8 b0), (1, vr 5 b1), (2, vr 0 b2), (4, vi b4)] [vl q9.1, vl (A 23 ((A 8 b0 11).toNat) b4.toNat), vi (A 24 ((A 5 b1 0).toNat) b4.toNat)]
          obtain ⟨q11, e12, h⟩ := obd h
          refine h_callS C Rm Y [vl (A 23 ((A 8 b0 11).toNat) b4.toNat), vl q9.1] [vi (A 24 ((A 5 b1 0).toNat) b4.toNat)] (hx_CS_hundredths l D B H0 G _ (A 23 ((A 8 b0 11).toNat) b4.toNat) q9.1 _ _ e12) cl_CS_227 e_hx_CS_firstOtherwise_46 rfl rfl rfl ⟨by decide, by decide⟩ ?_
          rintro _ _ ⟨rfl, rfl⟩
          show HM g D G q q11.2 49 [(0, vr 8 b0), (1, vr 5 b1), (2, vr 0 b2), (4, vi b4)] [vi q11.1, vi (A 24 ((A 5 b1 0).toNat) b4.toNat)]
          obtain ⟨c13, h⟩ := igd h
          obtain ⟨c14, h⟩ := igd h
          refine h_icmp_eq (tgt := 55) C e_hx_CS_firstOtherwise_49 (by decide) c13 c14 (fun c15 => ?_) (fun c15 => ?_)
          · have h := ifp c15 h
            refine h_blk 12 [(4, vi (b4 + 1)), (0, vr 8 b0), (1, vr 5 b1), (2, vr 0 b2)] [] C f_hx_CS_firstOtherwise_55_2 rfl ?_
            refine h_loc [(0, vr 8 b0), (1, vr 5 b1), (2, vr 0 b2), (4, vi (b4 + 1))] ⟨rfl, rfl, rfl, rfl, trivial⟩ ?_
            exact ih q11.2 b0 b1 b2 (b4 + 1) (h_b0) (h_b1) (h_b2) h
          · have h := ifn c15 h
            refine h_blk 54 [(0, vr 8 b0), (1, vr 5 b1), (2, vr 0 b2), (4, vi b4)] [vi b4] C f_hx_CS_firstOtherwise_52_1 rfl ?_
            exact h_iret C Rm E e_hx_CS_firstOtherwise_54 (fin1 h)
  show HM g D G q A 0 [(0, vr 8 o), (1, vr 5 a0), (2, vr 0 a1), (3, vi a2)] []
  unfold f_CS_firstOtherwise at h
  refine h_blk 3 [(0, vr 8 o), (1, vr 5 a0), (2, vr 0 a1), (3, vi a2)] [vr 8 o, vi a2, vr 0 a1] C f_hx_CS_firstOtherwise_0_3 rfl ?_
  refine h_getr4 C e_hx_CS_firstOtherwise_3 fg_CS_39 h_o rfl rfl rfl rfl (fun g16 => ?_)
  obtain ⟨q17, e18, h⟩ := obd h
  refine h_callV C Rm Y [vi a2, vr 23 ((A 8 o 11).toNat)] [] (hx_Crowd_spread l D B H0 G _ a1 a2 ((A 8 o 11).toNat) h_a1 g16 _ _ e18) cl_CS_155 h_a1 rfl rfl rfl e_hx_CS_firstOtherwise_6 rfl rfl rfl ⟨by decide, by decide⟩ ?_
  rintro _ _ ⟨rfl, rfl⟩
  show HM g D G q q17.2 9 [(0, vr 8 o), (1, vr 5 a0), (2, vr 0 a1), (3, vi a2)] []
  refine h_blk 12 [(4, vi 0), (0, vr 8 o), (1, vr 5 a0), (2, vr 0 a1), (3, vi a2)] [] C f_hx_CS_firstOtherwise_9_2 rfl ?_
  refine h_loc [(0, vr 8 o), (1, vr 5 a0), (2, vr 0 a1), (4, vi 0)] ⟨rfl, rfl, rfl, rfl, trivial⟩ ?_
  exact hd_12 _ q17.2 o a0 a1 0 (h_o) (h_a0) (h_a1) h

def f_CS_wouldTell0 (A : mA) (o : Nat) (a0 : Nat) (a2 : Int) : Option (Int × mA) := (some (0, A))
theorem f_hx_CS_wouldTell0_0_1 : mblkB b_CS_wouldTell [(0, .aload_n 2, vi 0)] = true := by decide +kernel
theorem e_hx_CS_wouldTell0_1 : decode b_CS_wouldTell 1 = .ok (.ifnull 25, 3) := by decide +kernel
theorem f_hx_CS_wouldTell0_26_1 : mblkB b_CS_wouldTell [(26, .iconst 0, vi 0)] = true := by decide +kernel
theorem e_hx_CS_wouldTell0_27 : decode b_CS_wouldTell 27 = .ok (.ireturn, 1) := by decide +kernel
set_option maxHeartbeats 4000000 in
set_option maxRecDepth 20000 in
theorem hx_CS_wouldTell0  : ∀ (l : Launch) (D : va_G) (B : Nat) (H0 : Heap) (G : tG) (A : mA) (o : Nat) (a0 : Nat) (a2 : Int) (h_o : G o = some 8) (h_a0 : G a0 = some 5)  (r9 : Int) (A9 : mA), f_CS_wouldTell0  A o a0 a2 = some (r9, A9) → hMet l D B H0 G y_CS_wouldTell b_CS_wouldTell 4 (some .boolean) 0 0 [vr 8 o, vr 5 a0, vn, vi a2] A (fun v A' => v = some (vi r9) ∧ A' = A9) := by
  intro l D B H0 G A o a0 a2 h_o h_a0 r9 A9 h
  refine h_met (by decide) rfl (fun g q C Rm Y E => ?_)
  show HM g D G q A 0 [(0, vr 8 o), (1, vr 5 a0), (2, vn), (3, vi a2)] []
  unfold f_CS_wouldTell0 at h
  refine h_blk 1 [(0, vr 8 o), (1, vr 5 a0), (2, vn), (3, vi a2)] [vn] C f_hx_CS_wouldTell0_0_1 rfl ?_
  refine wn_ifnull (tgt := 26) C e_hx_CS_wouldTell0_1 (by decide) ?_
  refine h_blk 27 [(0, vr 8 o), (1, vr 5 a0), (2, vn), (3, vi a2)] [vi 0] C f_hx_CS_wouldTell0_26_1 rfl ?_
  exact h_zret C Rm E (Or.inl rfl) e_hx_CS_wouldTell0_27 (fin1 h)

def f_CS_wouldTell (A : mA) (o : Nat) (a0 : Nat) (a1 : Nat) (a2 : Int) : Option (Int × mA) := (if g32 (A 0 a1 2) then (if (A 0 a1 2) ≤ 0 then (some (0, A)) else (Option.bind (f_CS_firstOtherwise A o a0 a1 a2) (fun q3 => (if g32 q3.1 then (if q3.1 = (-1) then (some (1, q3.2)) else (some (0, q3.2))) else none)))) else none)
theorem f_hx_CS_wouldTell_0_1 : mblkB b_CS_wouldTell [(0, .aload_n 2, vi 0)] = true := by decide +kernel
theorem e_hx_CS_wouldTell_1 : decode b_CS_wouldTell 1 = .ok (.ifnull 25, 3) := by decide +kernel
theorem f_hx_CS_wouldTell_4_1 : mblkB b_CS_wouldTell [(4, .aload_n 2, vi 0)] = true := by decide +kernel
theorem e_hx_CS_wouldTell_5 : decode b_CS_wouldTell 5 = .ok (.getfield 111, 3) := by decide +kernel
theorem e_hx_CS_wouldTell_8 : decode b_CS_wouldTell 8 = .ok (.ifCond .le 18, 3) := by decide +kernel
theorem f_hx_CS_wouldTell_26_1 : mblkB b_CS_wouldTell [(26, .iconst 0, vi 0)] = true := by decide +kernel
theorem e_hx_CS_wouldTell_27 : decode b_CS_wouldTell 27 = .ok (.ireturn, 1) := by decide +kernel
theorem f_hx_CS_wouldTell_11_4 : mblkB b_CS_wouldTell [(11, .aload_n 0, vi 0), (12, .aload_n 1, vi 0), (13, .aload_n 2, vi 0), (14, .iload_n 3, vi 0)] = true := by decide +kernel
theorem e_hx_CS_wouldTell_15 : decode b_CS_wouldTell 15 = .ok (.invokevirtual 207, 3) := by decide +kernel
theorem f_hx_CS_wouldTell_18_1 : mblkB b_CS_wouldTell [(18, .iconst (-1), vi (-1))] = true := by decide +kernel
theorem e_hx_CS_wouldTell_19 : decode b_CS_wouldTell 19 = .ok (.if_icmp .ne 7, 3) := by decide +kernel
theorem f_hx_CS_wouldTell_22_2 : mblkB b_CS_wouldTell [(22, .iconst 1, vi 1), (23, .goto 4, vi 27)] = true := by decide +kernel
set_option maxHeartbeats 4000000 in
set_option maxRecDepth 20000 in
theorem hx_CS_wouldTell  : ∀ (l : Launch) (D : va_G) (B : Nat) (H0 : Heap) (G : tG) (A : mA) (o : Nat) (a0 : Nat) (a1 : Nat) (a2 : Int) (h_o : G o = some 8) (h_a0 : G a0 = some 5) (h_a1 : G a1 = some 0)  (r9 : Int) (A9 : mA), f_CS_wouldTell  A o a0 a1 a2 = some (r9, A9) → hMet l D B H0 G y_CS_wouldTell b_CS_wouldTell 4 (some .boolean) 3 69 [vr 8 o, vr 5 a0, vr 0 a1, vi a2] A (fun v A' => v = some (vi r9) ∧ A' = A9) := by
  intro l D B H0 G A o a0 a1 a2 h_o h_a0 h_a1 r9 A9 h
  refine h_met (by decide) rfl (fun g q C Rm Y E => ?_)
  show HM g D G q A 0 [(0, vr 8 o), (1, vr 5 a0), (2, vr 0 a1), (3, vi a2)] []
  unfold f_CS_wouldTell at h
  refine h_blk 1 [(0, vr 8 o), (1, vr 5 a0), (2, vr 0 a1), (3, vi a2)] [vr 0 a1] C f_hx_CS_wouldTell_0_1 rfl ?_
  refine h_ifnull C e_hx_CS_wouldTell_1 ?_
  refine h_blk 5 [(0, vr 8 o), (1, vr 5 a0), (2, vr 0 a1), (3, vi a2)] [vr 0 a1] C f_hx_CS_wouldTell_4_1 rfl ?_
  refine h_geti C e_hx_CS_wouldTell_5 fg_CS_111 h_a1 rfl rfl rfl (A 0 a1 2) rfl ?_
  obtain ⟨c1, h⟩ := igd h
  refine h_if_le (tgt := 26) C e_hx_CS_wouldTell_8 (by decide) c1 (fun c2 => ?_) (fun c2 => ?_)
  · have h := ifp c2 h
    refine h_blk 27 [(0, vr 8 o), (1, vr 5 a0), (2, vr 0 a1), (3, vi a2)] [vi 0] C f_hx_CS_wouldTell_26_1 rfl ?_
    exact h_zret C Rm E (Or.inl rfl) e_hx_CS_wouldTell_27 (fin1 h)
  · have h := ifn c2 h
    refine h_blk 15 [(0, vr 8 o), (1, vr 5 a0), (2, vr 0 a1), (3, vi a2)] [vi a2, vr 0 a1, vr 5 a0, vr 8 o] C f_hx_CS_wouldTell_11_4 rfl ?_
    obtain ⟨q3, e4, h⟩ := obd h
    refine h_callV C Rm Y [vr 5 a0, vr 0 a1, vi a2] [] (hx_CS_firstOtherwise l D B H0 G _ o a0 a1 a2 h_o h_a0 h_a1 _ _ e4) cl_CS_207 h_o rfl rfl rfl e_hx_CS_wouldTell_15 rfl rfl rfl ⟨by decide, by decide⟩ ?_
    rintro _ _ ⟨rfl, rfl⟩
    show HM g D G q q3.2 18 [(0, vr 8 o), (1, vr 5 a0), (2, vr 0 a1), (3, vi a2)] [vi q3.1]
    refine h_blk 19 [(0, vr 8 o), (1, vr 5 a0), (2, vr 0 a1), (3, vi a2)] [vi (-1), vi q3.1] C f_hx_CS_wouldTell_18_1 rfl ?_
    obtain ⟨c5, h⟩ := igd h
    refine h_icmp_ne (tgt := 26) C e_hx_CS_wouldTell_19 (by decide) c5 (by decide) (fun c6 => ?_) (fun c6 => ?_)
    · have h := ifn c6 h
      refine h_blk 27 [(0, vr 8 o), (1, vr 5 a0), (2, vr 0 a1), (3, vi a2)] [vi 0] C f_hx_CS_wouldTell_26_1 rfl ?_
      exact h_zret C Rm E (Or.inl rfl) e_hx_CS_wouldTell_27 (fin1 h)
    · have h := ifp c6 h
      refine h_blk 27 [(0, vr 8 o), (1, vr 5 a0), (2, vr 0 a1), (3, vi a2)] [vi 1] C f_hx_CS_wouldTell_22_2 rfl ?_
      exact h_zret C Rm E (Or.inr rfl) e_hx_CS_wouldTell_27 (fin1 h)

def f_CS_namesThatTell_5 : Nat → mA → Nat → Nat → Nat → Int → Int → Option (Int × mA)
  | 0, _, _, _, _, _, _ => none
  | n + 1, A, b0, b1, b2, b3, b4 => (if g32 b4 then (if 6 ≤ b4 then (some (b3, A)) else (Option.bind (f_CS_wouldTell A b0 b1 b2 b4) (fun q3 => (if g32 q3.1 then (if q3.1 = 0 then (f_CS_namesThatTell_5  n q3.2 b0 b1 b2 (iOr b3 0) (b4 + 1)) else (f_CS_namesThatTell_5  n q3.2 b0 b1 b2 (iOr b3 (iShl 1 b4)) (b4 + 1))) else none)))) else none)
def f_CS_namesThatTell (A : mA) (o : Nat) (a0 : Nat) (a1 : Nat) : Option (Int × mA) := (f_CS_namesThatTell_5  20 A o a0 a1 0 0)
theorem f_hx_CS_namesThatTell_0_4 : mblkB b_CS_namesThatTell [(0, .iconst 0, vi 0), (1, .istore_n 3, vi 0), (2, .iconst 0, vi 0), (3, .istore 4, vi 0)] = true := by decide +kernel
theorem f_hx_CS_namesThatTell_5_2 : mblkB b_CS_namesThatTell [(5, .iload 4, vi 0), (7, .bipush 6, vi 6)] = true := by decide +kernel
theorem e_hx_CS_namesThatTell_9 : decode b_CS_namesThatTell 9 = .ok (.if_icmp .ge 31, 3) := by decide +kernel
theorem f_hx_CS_namesThatTell_40_1 : mblkB b_CS_namesThatTell [(40, .iload_n 3, vi 0)] = true := by decide +kernel
theorem e_hx_CS_namesThatTell_41 : decode b_CS_namesThatTell 41 = .ok (.ireturn, 1) := by decide +kernel
theorem f_hx_CS_namesThatTell_12_5 : mblkB b_CS_namesThatTell [(12, .iload_n 3, vi 0), (13, .aload_n 0, vi 0), (14, .aload_n 1, vi 0), (15, .aload_n 2, vi 0), (16, .iload 4, vi 0)] = true := by decide +kernel
theorem e_hx_CS_namesThatTell_18 : decode b_CS_namesThatTell 18 = .ok (.invokevirtual 259, 3) := by decide +kernel
theorem e_hx_CS_namesThatTell_21 : decode b_CS_namesThatTell 21 = .ok (.ifCond .eq 10, 3) := by decide +kernel
theorem f_hx_CS_namesThatTell_31_5 : mblkB b_CS_namesThatTell [(31, .iconst 0, vi 0), (32, .ior, vi 0), (33, .istore_n 3, vi 0), (34, .iinc 4 1, vi 1), (37, .goto (-32), vi 5)] = true := by decide +kernel
theorem f_hx_CS_namesThatTell_24_4 : mblkB b_CS_namesThatTell [(24, .iconst 1, vi 1), (25, .iload 4, vi 0), (27, .ishl, vi 0), (28, .goto 4, vi 32)] = true := by decide +kernel
theorem f_hx_CS_namesThatTell_32_4 : mblkB b_CS_namesThatTell [(32, .ior, vi 0), (33, .istore_n 3, vi 0), (34, .iinc 4 1, vi 1), (37, .goto (-32), vi 5)] = true := by decide +kernel
set_option maxHeartbeats 4000000 in
set_option maxRecDepth 20000 in
theorem hx_CS_namesThatTell  : ∀ (l : Launch) (D : va_G) (B : Nat) (H0 : Heap) (G : tG) (A : mA) (o : Nat) (a0 : Nat) (a1 : Nat) (h_o : G o = some 8) (h_a0 : G a0 = some 5) (h_a1 : G a1 = some 0)  (r9 : Int) (A9 : mA), f_CS_namesThatTell  A o a0 a1 = some (r9, A9) → hMet l D B H0 G y_CS_namesThatTell b_CS_namesThatTell 5 (some .int) 4 92 [vr 8 o, vr 5 a0, vr 0 a1] A (fun v A' => v = some (vi r9) ∧ A' = A9) := by
  intro l D B H0 G A o a0 a1 h_o h_a0 h_a1 r9 A9 h
  refine h_met (by decide) rfl (fun g q C Rm Y E => ?_)
  have hd_5 : ∀ (n : Nat) (A : mA) (b0 : Nat) (b1 : Nat) (b2 : Nat) (b3 : Int) (b4 : Int) , G b0 = some 8 → G b1 = some 5 → G b2 = some 0 → f_CS_namesThatTell_5  n A b0 b1 b2 b3 b4 = some (r9, A9) → HM g D G q A 5 [(0, vr 8 b0), (1, vr 5 b1), (2, vr 0 b2), (3, vi b3), (4, vi b4)] [] := by
    intro n
    induction n with
    | zero => intro A b0 b1 b2 b3 b4 h_b0 h_b1 h_b2 h; cases h
    | succ n ih =>
      intro A b0 b1 b2 b3 b4 h_b0 h_b1 h_b2 h
      unfold f_CS_namesThatTell_5 at h
      refine h_blk 9 [(0, vr 8 b0), (1, vr 5 b1), (2, vr 0 b2), (3, vi b3), (4, vi b4)] [vi 6, vi b4] C f_hx_CS_namesThatTell_5_2 rfl ?_
      obtain ⟨c1, h⟩ := igd h
      refine h_icmp_ge (tgt := 40) C e_hx_CS_namesThatTell_9 (by decide) c1 (by decide) (fun c2 => ?_) (fun c2 => ?_)
      · have h := ifp c2 h
        refine h_blk 41 [(0, vr 8 b0), (1, vr 5 b1), (2, vr 0 b2), (3, vi b3), (4, vi b4)] [vi b3] C f_hx_CS_namesThatTell_40_1 rfl ?_
        exact h_iret C Rm E e_hx_CS_namesThatTell_41 (fin1 h)
      · have h := ifn c2 h
        refine h_blk 18 [(0, vr 8 b0), (1, vr 5 b1), (2, vr 0 b2), (3, vi b3), (4, vi b4)] [vi b4, vr 0 b2, vr 5 b1, vr 8 b0, vi b3] C f_hx_CS_namesThatTell_12_5 rfl ?_
        obtain ⟨q3, e4, h⟩ := obd h
        refine h_callV C Rm Y [vr 5 b1, vr 0 b2, vi b4] [vi b3] (hx_CS_wouldTell l D B H0 G _ b0 b1 b2 b4 h_b0 h_b1 h_b2 _ _ e4) cl_CS_259 h_b0 rfl rfl rfl e_hx_CS_namesThatTell_18 rfl rfl rfl ⟨by decide, by decide⟩ ?_
        rintro _ _ ⟨rfl, rfl⟩
        show HM g D G q q3.2 21 [(0, vr 8 b0), (1, vr 5 b1), (2, vr 0 b2), (3, vi b3), (4, vi b4)] [vi q3.1, vi b3]
        obtain ⟨c5, h⟩ := igd h
        refine h_if_eq (tgt := 31) C e_hx_CS_namesThatTell_21 (by decide) c5 (fun c6 => ?_) (fun c6 => ?_)
        · have h := ifp c6 h
          refine h_blk 5 [(4, vi (b4 + 1)), (3, vi (iOr b3 0)), (0, vr 8 b0), (1, vr 5 b1), (2, vr 0 b2)] [] C f_hx_CS_namesThatTell_31_5 rfl ?_
          refine h_loc [(0, vr 8 b0), (1, vr 5 b1), (2, vr 0 b2), (3, vi (iOr b3 0)), (4, vi (b4 + 1))] ⟨rfl, rfl, rfl, rfl, rfl, trivial⟩ ?_
          exact ih q3.2 b0 b1 b2 (iOr b3 0) (b4 + 1) (h_b0) (h_b1) (h_b2) h
        · have h := ifn c6 h
          refine h_blk 32 [(0, vr 8 b0), (1, vr 5 b1), (2, vr 0 b2), (3, vi b3), (4, vi b4)] [vi (iShl 1 b4), vi b3] C f_hx_CS_namesThatTell_24_4 rfl ?_
          refine h_blk 5 [(4, vi (b4 + 1)), (3, vi (iOr b3 (iShl 1 b4))), (0, vr 8 b0), (1, vr 5 b1), (2, vr 0 b2)] [] C f_hx_CS_namesThatTell_32_4 rfl ?_
          refine h_loc [(0, vr 8 b0), (1, vr 5 b1), (2, vr 0 b2), (3, vi (iOr b3 (iShl 1 b4))), (4, vi (b4 + 1))] ⟨rfl, rfl, rfl, rfl, rfl, trivial⟩ ?_
          exact ih q3.2 b0 b1 b2 (iOr b3 (iShl 1 b4)) (b4 + 1) (h_b0) (h_b1) (h_b2) h
  show HM g D G q A 0 [(0, vr 8 o), (1, vr 5 a0), (2, vr 0 a1)] []
  unfold f_CS_namesThatTell at h
  refine h_blk 5 [(4, vi 0), (3, vi 0), (0, vr 8 o), (1, vr 5 a0), (2, vr 0 a1)] [] C f_hx_CS_namesThatTell_0_4 rfl ?_
  refine h_loc [(0, vr 8 o), (1, vr 5 a0), (2, vr 0 a1), (3, vi 0), (4, vi 0)] ⟨rfl, rfl, rfl, rfl, rfl, trivial⟩ ?_
  exact hd_5 _ A o a0 a1 0 0 (h_o) (h_a0) (h_a1) h

def f_CS_sheet (A : mA) (o : Nat) (a0 : Int) (a1 : Int) (a2 : Int) : Option (Int × mA) := (Option.bind (f_CS_isSheet A a0) (fun q1 => (if g32 q1.1 then (if q1.1 = 0 then (some ((-2), q1.2)) else (if g32 a1 then (if a1 < (-1) then (some ((-2), q1.2)) else (if a1 ≤ 1 then (if a1 = (-1) then (if (0 ≤ a0 ∧ a0 < ((4 : Nat) : Int)) then (Option.bind (f_Sheet_become q1.2 ((q1.2 22 ((q1.2 8 o 8).toNat) a0.toNat).toNat) (-1) 0) (fun q20 => (some (1, q20.2)))) else none) else (if g32 a2 then (if a2 ≤ 40 then (if 0 ≤ a2 then (if (0 ≤ a0 ∧ a0 < ((4 : Nat) : Int)) then (Option.bind (f_Sheet_become q1.2 ((q1.2 22 ((q1.2 8 o 8).toNat) a0.toNat).toNat) a1 a2) (fun q15 => (some (1, q15.2)))) else none) else (some ((-14), q1.2))) else (some ((-2), q1.2))) else none)) else (some ((-2), q1.2)))) else none)) else none)))
theorem f_hx_CS_sheet_0_1 : mblkB b_CS_sheet [(0, .iload_n 1, vi 0)] = true := by decide +kernel
theorem e_hx_CS_sheet_1 : decode b_CS_sheet 1 = .ok (.invokestatic 200, 3) := by decide +kernel
theorem e_hx_CS_sheet_4 : decode b_CS_sheet 4 = .ok (.ifCond .eq 13, 3) := by decide +kernel
theorem f_hx_CS_sheet_17_1 : mblkB b_CS_sheet [(17, .bipush (-2), vi (-2))] = true := by decide +kernel
theorem e_hx_CS_sheet_19 : decode b_CS_sheet 19 = .ok (.ireturn, 1) := by decide +kernel
theorem f_hx_CS_sheet_7_2 : mblkB b_CS_sheet [(7, .iload_n 2, vi 0), (8, .iconst (-1), vi (-1))] = true := by decide +kernel
theorem e_hx_CS_sheet_9 : decode b_CS_sheet 9 = .ok (.if_icmp .lt 8, 3) := by decide +kernel
theorem f_hx_CS_sheet_12_2 : mblkB b_CS_sheet [(12, .iload_n 2, vi 0), (13, .iconst 1, vi 1)] = true := by decide +kernel
theorem e_hx_CS_sheet_14 : decode b_CS_sheet 14 = .ok (.if_icmp .le 6, 3) := by decide +kernel
theorem f_hx_CS_sheet_20_2 : mblkB b_CS_sheet [(20, .iload_n 2, vi 0), (21, .iconst (-1), vi (-1))] = true := by decide +kernel
theorem e_hx_CS_sheet_22 : decode b_CS_sheet 22 = .ok (.if_icmp .ne 16, 3) := by decide +kernel
theorem f_hx_CS_sheet_38_2 : mblkB b_CS_sheet [(38, .iload_n 3, vi 0), (39, .bipush 40, vi 40)] = true := by decide +kernel
theorem e_hx_CS_sheet_41 : decode b_CS_sheet 41 = .ok (.if_icmp .le 6, 3) := by decide +kernel
theorem f_hx_CS_sheet_47_1 : mblkB b_CS_sheet [(47, .iload_n 3, vi 0)] = true := by decide +kernel
theorem e_hx_CS_sheet_48 : decode b_CS_sheet 48 = .ok (.ifCond .ge 6, 3) := by decide +kernel
theorem f_hx_CS_sheet_54_1 : mblkB b_CS_sheet [(54, .aload_n 0, vi 0)] = true := by decide +kernel
theorem e_hx_CS_sheet_55 : decode b_CS_sheet 55 = .ok (.getfield 21, 3) := by decide +kernel
theorem f_hx_CS_sheet_58_1 : mblkB b_CS_sheet [(58, .iload_n 1, vi 0)] = true := by decide +kernel
theorem e_hx_CS_sheet_59 : decode b_CS_sheet 59 = .ok (.aaload, 1) := by decide +kernel
theorem f_hx_CS_sheet_60_2 : mblkB b_CS_sheet [(60, .iload_n 2, vi 0), (61, .iload_n 3, vi 0)] = true := by decide +kernel
theorem e_hx_CS_sheet_62 : decode b_CS_sheet 62 = .ok (.invokevirtual 223, 3) := by decide +kernel
theorem f_hx_CS_sheet_65_1 : mblkB b_CS_sheet [(65, .iconst 1, vi 1)] = true := by decide +kernel
theorem e_hx_CS_sheet_66 : decode b_CS_sheet 66 = .ok (.ireturn, 1) := by decide +kernel
theorem f_hx_CS_sheet_51_1 : mblkB b_CS_sheet [(51, .bipush (-14), vi (-14))] = true := by decide +kernel
theorem e_hx_CS_sheet_53 : decode b_CS_sheet 53 = .ok (.ireturn, 1) := by decide +kernel
theorem f_hx_CS_sheet_44_1 : mblkB b_CS_sheet [(44, .bipush (-2), vi (-2))] = true := by decide +kernel
theorem e_hx_CS_sheet_46 : decode b_CS_sheet 46 = .ok (.ireturn, 1) := by decide +kernel
theorem f_hx_CS_sheet_25_1 : mblkB b_CS_sheet [(25, .aload_n 0, vi 0)] = true := by decide +kernel
theorem e_hx_CS_sheet_26 : decode b_CS_sheet 26 = .ok (.getfield 21, 3) := by decide +kernel
theorem f_hx_CS_sheet_29_1 : mblkB b_CS_sheet [(29, .iload_n 1, vi 0)] = true := by decide +kernel
theorem e_hx_CS_sheet_30 : decode b_CS_sheet 30 = .ok (.aaload, 1) := by decide +kernel
theorem f_hx_CS_sheet_31_2 : mblkB b_CS_sheet [(31, .iconst (-1), vi (-1)), (32, .iconst 0, vi 0)] = true := by decide +kernel
theorem e_hx_CS_sheet_33 : decode b_CS_sheet 33 = .ok (.invokevirtual 223, 3) := by decide +kernel
theorem f_hx_CS_sheet_36_1 : mblkB b_CS_sheet [(36, .iconst 1, vi 1)] = true := by decide +kernel
theorem e_hx_CS_sheet_37 : decode b_CS_sheet 37 = .ok (.ireturn, 1) := by decide +kernel
set_option maxHeartbeats 4000000 in
set_option maxRecDepth 20000 in
theorem hx_CS_sheet  : ∀ (l : Launch) (D : va_G) (B : Nat) (H0 : Heap) (G : tG) (A : mA) (o : Nat) (a0 : Int) (a1 : Int) (a2 : Int) (h_o : G o = some 8)  (r9 : Int) (A9 : mA), f_CS_sheet  A o a0 a1 a2 = some (r9, A9) → hMet l D B H0 G y_CS_sheet b_CS_sheet 4 (some .int) 1 23 [vr 8 o, vi a0, vi a1, vi a2] A (fun v A' => v = some (vi r9) ∧ A' = A9) := by
  intro l D B H0 G A o a0 a1 a2 h_o r9 A9 h
  refine h_met (by decide) rfl (fun g q C Rm Y E => ?_)
  show HM g D G q A 0 [(0, vr 8 o), (1, vi a0), (2, vi a1), (3, vi a2)] []
  unfold f_CS_sheet at h
  refine h_blk 1 [(0, vr 8 o), (1, vi a0), (2, vi a1), (3, vi a2)] [vi a0] C f_hx_CS_sheet_0_1 rfl ?_
  obtain ⟨q1, e2, h⟩ := obd h
  refine h_callS C Rm Y [vi a0] [] (hx_CS_isSheet l D B H0 G _ a0 _ _ e2) cl_CS_200 e_hx_CS_sheet_1 rfl rfl rfl ⟨by decide, by decide⟩ ?_
  rintro _ _ ⟨rfl, rfl⟩
  show HM g D G q q1.2 4 [(0, vr 8 o), (1, vi a0), (2, vi a1), (3, vi a2)] [vi q1.1]
  obtain ⟨c3, h⟩ := igd h
  refine h_if_eq (tgt := 17) C e_hx_CS_sheet_4 (by decide) c3 (fun c4 => ?_) (fun c4 => ?_)
  · have h := ifp c4 h
    refine h_blk 19 [(0, vr 8 o), (1, vi a0), (2, vi a1), (3, vi a2)] [vi (-2)] C f_hx_CS_sheet_17_1 rfl ?_
    exact h_iret C Rm E e_hx_CS_sheet_19 (fin1 h)
  · have h := ifn c4 h
    refine h_blk 9 [(0, vr 8 o), (1, vi a0), (2, vi a1), (3, vi a2)] [vi (-1), vi a1] C f_hx_CS_sheet_7_2 rfl ?_
    obtain ⟨c5, h⟩ := igd h
    refine h_icmp_lt (tgt := 17) C e_hx_CS_sheet_9 (by decide) c5 (by decide) (fun c6 => ?_) (fun c6 => ?_)
    · have h := ifp c6 h
      refine h_blk 19 [(0, vr 8 o), (1, vi a0), (2, vi a1), (3, vi a2)] [vi (-2)] C f_hx_CS_sheet_17_1 rfl ?_
      exact h_iret C Rm E e_hx_CS_sheet_19 (fin1 h)
    · have h := ifn c6 h
      refine h_blk 14 [(0, vr 8 o), (1, vi a0), (2, vi a1), (3, vi a2)] [vi 1, vi a1] C f_hx_CS_sheet_12_2 rfl ?_
      refine h_icmp_le (tgt := 20) C e_hx_CS_sheet_14 (by decide) c5 (by decide) (fun c7 => ?_) (fun c7 => ?_)
      · have h := ifp c7 h
        refine h_blk 22 [(0, vr 8 o), (1, vi a0), (2, vi a1), (3, vi a2)] [vi (-1), vi a1] C f_hx_CS_sheet_20_2 rfl ?_
        refine h_icmp_ne (tgt := 38) C e_hx_CS_sheet_22 (by decide) c5 (by decide) (fun c8 => ?_) (fun c8 => ?_)
        · have h := ifn c8 h
          refine h_blk 41 [(0, vr 8 o), (1, vi a0), (2, vi a1), (3, vi a2)] [vi 40, vi a2] C f_hx_CS_sheet_38_2 rfl ?_
          obtain ⟨c9, h⟩ := igd h
          refine h_icmp_le (tgt := 47) C e_hx_CS_sheet_41 (by decide) c9 (by decide) (fun c10 => ?_) (fun c10 => ?_)
          · have h := ifp c10 h
            refine h_blk 48 [(0, vr 8 o), (1, vi a0), (2, vi a1), (3, vi a2)] [vi a2] C f_hx_CS_sheet_47_1 rfl ?_
            refine h_if_ge (tgt := 54) C e_hx_CS_sheet_48 (by decide) c9 (fun c11 => ?_) (fun c11 => ?_)
            · have h := ifp c11 h
              refine h_blk 55 [(0, vr 8 o), (1, vi a0), (2, vi a1), (3, vi a2)] [vr 8 o] C f_hx_CS_sheet_54_1 rfl ?_
              refine h_getr4 C e_hx_CS_sheet_55 fg_CS_21 h_o rfl rfl rfl rfl (fun g12 => ?_)
              refine h_blk 59 [(0, vr 8 o), (1, vi a0), (2, vi a1), (3, vi a2)] [vi a0, vr 22 ((q1.2 8 o 8).toNat)] C f_hx_CS_sheet_58_1 rfl ?_
              obtain ⟨c13, h⟩ := igd h
              refine h_aald4 C e_hx_CS_sheet_59 rfl rfl g12 rfl rfl rfl rfl (by decide) c13.1 c13.2 (fun g14 => ?_)
              refine h_blk 62 [(0, vr 8 o), (1, vi a0), (2, vi a1), (3, vi a2)] [vi a2, vi a1, vr 5 ((q1.2 22 ((q1.2 8 o 8).toNat) a0.toNat).toNat)] C f_hx_CS_sheet_60_2 rfl ?_
              obtain ⟨q15, e16, h⟩ := obd h
              refine h_callV C Rm Y [vi a1, vi a2] [] (hx_Sheet_become l D B H0 G _ ((q1.2 22 ((q1.2 8 o 8).toNat) a0.toNat).toNat) a1 a2 g14 _ _ e16) cl_CS_223 g14 rfl rfl rfl e_hx_CS_sheet_62 rfl rfl rfl ⟨by decide, by decide⟩ ?_
              rintro _ _ ⟨rfl, rfl⟩
              show HM g D G q q15.2 65 [(0, vr 8 o), (1, vi a0), (2, vi a1), (3, vi a2)] []
              refine h_blk 66 [(0, vr 8 o), (1, vi a0), (2, vi a1), (3, vi a2)] [vi 1] C f_hx_CS_sheet_65_1 rfl ?_
              exact h_iret C Rm E e_hx_CS_sheet_66 (fin1 h)
            · have h := ifn c11 h
              refine h_blk 53 [(0, vr 8 o), (1, vi a0), (2, vi a1), (3, vi a2)] [vi (-14)] C f_hx_CS_sheet_51_1 rfl ?_
              exact h_iret C Rm E e_hx_CS_sheet_53 (fin1 h)
          · have h := ifn c10 h
            refine h_blk 46 [(0, vr 8 o), (1, vi a0), (2, vi a1), (3, vi a2)] [vi (-2)] C f_hx_CS_sheet_44_1 rfl ?_
            exact h_iret C Rm E e_hx_CS_sheet_46 (fin1 h)
        · have h := ifp c8 h
          refine h_blk 26 [(0, vr 8 o), (1, vi a0), (2, vi a1), (3, vi a2)] [vr 8 o] C f_hx_CS_sheet_25_1 rfl ?_
          refine h_getr4 C e_hx_CS_sheet_26 fg_CS_21 h_o rfl rfl rfl rfl (fun g17 => ?_)
          refine h_blk 30 [(0, vr 8 o), (1, vi a0), (2, vi a1), (3, vi a2)] [vi a0, vr 22 ((q1.2 8 o 8).toNat)] C f_hx_CS_sheet_29_1 rfl ?_
          obtain ⟨c18, h⟩ := igd h
          refine h_aald4 C e_hx_CS_sheet_30 rfl rfl g17 rfl rfl rfl rfl (by decide) c18.1 c18.2 (fun g19 => ?_)
          refine h_blk 33 [(0, vr 8 o), (1, vi a0), (2, vi a1), (3, vi a2)] [vi 0, vi (-1), vr 5 ((q1.2 22 ((q1.2 8 o 8).toNat) a0.toNat).toNat)] C f_hx_CS_sheet_31_2 rfl ?_
          obtain ⟨q20, e21, h⟩ := obd h
          refine h_callV C Rm Y [vi (-1), vi 0] [] (hx_Sheet_become l D B H0 G _ ((q1.2 22 ((q1.2 8 o 8).toNat) a0.toNat).toNat) (-1) 0 g19 _ _ e21) cl_CS_223 g19 rfl rfl rfl e_hx_CS_sheet_33 rfl rfl rfl ⟨by decide, by decide⟩ ?_
          rintro _ _ ⟨rfl, rfl⟩
          show HM g D G q q20.2 36 [(0, vr 8 o), (1, vi a0), (2, vi a1), (3, vi a2)] []
          refine h_blk 37 [(0, vr 8 o), (1, vi a0), (2, vi a1), (3, vi a2)] [vi 1] C f_hx_CS_sheet_36_1 rfl ?_
          exact h_iret C Rm E e_hx_CS_sheet_37 (fin1 h)
      · have h := ifn c7 h
        refine h_blk 19 [(0, vr 8 o), (1, vi a0), (2, vi a1), (3, vi a2)] [vi (-2)] C f_hx_CS_sheet_17_1 rfl ?_
        exact h_iret C Rm E e_hx_CS_sheet_19 (fin1 h)

def f_CS_cell (A : mA) (o : Nat) (a0 : Int) (a1 : Int) (a2 : Int) : Option (Int × mA) := (Option.bind (f_CS_isSheet A a0) (fun q1 => (if g32 q1.1 then (if q1.1 = 0 then (some ((-2), q1.2)) else (if (0 ≤ a0 ∧ a0 < ((4 : Nat) : Int)) then (if g32 (q1.2 5 ((q1.2 22 ((q1.2 8 o 8).toNat) a0.toNat).toNat) 1) then (if (q1.2 5 ((q1.2 22 ((q1.2 8 o 8).toNat) a0.toNat).toNat) 1) = (-1) then (some ((-11), q1.2)) else (if g32 a1 then (if a1 < 0 then (some ((-12), q1.2)) else (if g32 (q1.2 5 ((q1.2 22 ((q1.2 8 o 8).toNat) a0.toNat).toNat) 2) then (if a1 < (q1.2 5 ((q1.2 22 ((q1.2 8 o 8).toNat) a0.toNat).toNat) 2) then (Option.bind (f_Sheet_write q1.2 ((q1.2 22 ((q1.2 8 o 8).toNat) a0.toNat).toNat) a1 a2) (fun q14 => (some (1, q14.2)))) else (some ((-12), q1.2))) else none)) else none)) else none) else none)) else none)))
theorem f_hx_CS_cell_0_1 : mblkB b_CS_cell [(0, .iload_n 1, vi 0)] = true := by decide +kernel
theorem e_hx_CS_cell_1 : decode b_CS_cell 1 = .ok (.invokestatic 200, 3) := by decide +kernel
theorem e_hx_CS_cell_4 : decode b_CS_cell 4 = .ok (.ifCond .ne 6, 3) := by decide +kernel
theorem f_hx_CS_cell_10_1 : mblkB b_CS_cell [(10, .aload_n 0, vi 0)] = true := by decide +kernel
theorem e_hx_CS_cell_11 : decode b_CS_cell 11 = .ok (.getfield 21, 3) := by decide +kernel
theorem f_hx_CS_cell_14_1 : mblkB b_CS_cell [(14, .iload_n 1, vi 0)] = true := by decide +kernel
theorem e_hx_CS_cell_15 : decode b_CS_cell 15 = .ok (.aaload, 1) := by decide +kernel
theorem f_hx_CS_cell_16_2 : mblkB b_CS_cell [(16, .astore 4, vi 0), (18, .aload 4, vi 0)] = true := by decide +kernel
theorem e_hx_CS_cell_20 : decode b_CS_cell 20 = .ok (.getfield 203, 3) := by decide +kernel
theorem f_hx_CS_cell_23_1 : mblkB b_CS_cell [(23, .iconst (-1), vi (-1))] = true := by decide +kernel
theorem e_hx_CS_cell_24 : decode b_CS_cell 24 = .ok (.if_icmp .ne 6, 3) := by decide +kernel
theorem f_hx_CS_cell_30_1 : mblkB b_CS_cell [(30, .iload_n 2, vi 0)] = true := by decide +kernel
theorem e_hx_CS_cell_31 : decode b_CS_cell 31 = .ok (.ifCond .lt 12, 3) := by decide +kernel
theorem f_hx_CS_cell_43_1 : mblkB b_CS_cell [(43, .bipush (-12), vi (-12))] = true := by decide +kernel
theorem e_hx_CS_cell_45 : decode b_CS_cell 45 = .ok (.ireturn, 1) := by decide +kernel
theorem f_hx_CS_cell_34_2 : mblkB b_CS_cell [(34, .iload_n 2, vi 0), (35, .aload 4, vi 0)] = true := by decide +kernel
theorem e_hx_CS_cell_37 : decode b_CS_cell 37 = .ok (.getfield 206, 3) := by decide +kernel
theorem e_hx_CS_cell_40 : decode b_CS_cell 40 = .ok (.if_icmp .lt 6, 3) := by decide +kernel
theorem f_hx_CS_cell_46_3 : mblkB b_CS_cell [(46, .aload 4, vi 0), (48, .iload_n 2, vi 0), (49, .iload_n 3, vi 0)] = true := by decide +kernel
theorem e_hx_CS_cell_50 : decode b_CS_cell 50 = .ok (.invokevirtual 231, 3) := by decide +kernel
theorem f_hx_CS_cell_53_1 : mblkB b_CS_cell [(53, .iconst 1, vi 1)] = true := by decide +kernel
theorem e_hx_CS_cell_54 : decode b_CS_cell 54 = .ok (.ireturn, 1) := by decide +kernel
theorem f_hx_CS_cell_27_1 : mblkB b_CS_cell [(27, .bipush (-11), vi (-11))] = true := by decide +kernel
theorem e_hx_CS_cell_29 : decode b_CS_cell 29 = .ok (.ireturn, 1) := by decide +kernel
theorem f_hx_CS_cell_7_1 : mblkB b_CS_cell [(7, .bipush (-2), vi (-2))] = true := by decide +kernel
theorem e_hx_CS_cell_9 : decode b_CS_cell 9 = .ok (.ireturn, 1) := by decide +kernel
set_option maxHeartbeats 4000000 in
set_option maxRecDepth 20000 in
theorem hx_CS_cell  : ∀ (l : Launch) (D : va_G) (B : Nat) (H0 : Heap) (G : tG) (A : mA) (o : Nat) (a0 : Int) (a1 : Int) (a2 : Int) (h_o : G o = some 8)  (r9 : Int) (A9 : mA), f_CS_cell  A o a0 a1 a2 = some (r9, A9) → hMet l D B H0 G y_CS_cell b_CS_cell 5 (some .int) 1 22 [vr 8 o, vi a0, vi a1, vi a2] A (fun v A' => v = some (vi r9) ∧ A' = A9) := by
  intro l D B H0 G A o a0 a1 a2 h_o r9 A9 h
  refine h_met (by decide) rfl (fun g q C Rm Y E => ?_)
  show HM g D G q A 0 [(0, vr 8 o), (1, vi a0), (2, vi a1), (3, vi a2)] []
  unfold f_CS_cell at h
  refine h_blk 1 [(0, vr 8 o), (1, vi a0), (2, vi a1), (3, vi a2)] [vi a0] C f_hx_CS_cell_0_1 rfl ?_
  obtain ⟨q1, e2, h⟩ := obd h
  refine h_callS C Rm Y [vi a0] [] (hx_CS_isSheet l D B H0 G _ a0 _ _ e2) cl_CS_200 e_hx_CS_cell_1 rfl rfl rfl ⟨by decide, by decide⟩ ?_
  rintro _ _ ⟨rfl, rfl⟩
  show HM g D G q q1.2 4 [(0, vr 8 o), (1, vi a0), (2, vi a1), (3, vi a2)] [vi q1.1]
  obtain ⟨c3, h⟩ := igd h
  refine h_if_ne (tgt := 10) C e_hx_CS_cell_4 (by decide) c3 (fun c4 => ?_) (fun c4 => ?_)
  · have h := ifn c4 h
    refine h_blk 11 [(0, vr 8 o), (1, vi a0), (2, vi a1), (3, vi a2)] [vr 8 o] C f_hx_CS_cell_10_1 rfl ?_
    refine h_getr4 C e_hx_CS_cell_11 fg_CS_21 h_o rfl rfl rfl rfl (fun g5 => ?_)
    refine h_blk 15 [(0, vr 8 o), (1, vi a0), (2, vi a1), (3, vi a2)] [vi a0, vr 22 ((q1.2 8 o 8).toNat)] C f_hx_CS_cell_14_1 rfl ?_
    obtain ⟨c6, h⟩ := igd h
    refine h_aald4 C e_hx_CS_cell_15 rfl rfl g5 rfl rfl rfl rfl (by decide) c6.1 c6.2 (fun g7 => ?_)
    refine h_blk 20 [(4, vr 5 ((q1.2 22 ((q1.2 8 o 8).toNat) a0.toNat).toNat)), (0, vr 8 o), (1, vi a0), (2, vi a1), (3, vi a2)] [vr 5 ((q1.2 22 ((q1.2 8 o 8).toNat) a0.toNat).toNat)] C f_hx_CS_cell_16_2 rfl ?_
    refine h_geti C e_hx_CS_cell_20 fg_CS_203 g7 rfl rfl rfl (q1.2 5 ((q1.2 22 ((q1.2 8 o 8).toNat) a0.toNat).toNat) 1) rfl ?_
    refine h_blk 24 [(4, vr 5 ((q1.2 22 ((q1.2 8 o 8).toNat) a0.toNat).toNat)), (0, vr 8 o), (1, vi a0), (2, vi a1), (3, vi a2)] [vi (-1), vi (q1.2 5 ((q1.2 22 ((q1.2 8 o 8).toNat) a0.toNat).toNat) 1)] C f_hx_CS_cell_23_1 rfl ?_
    obtain ⟨c8, h⟩ := igd h
    refine h_icmp_ne (tgt := 30) C e_hx_CS_cell_24 (by decide) c8 (by decide) (fun c9 => ?_) (fun c9 => ?_)
    · have h := ifn c9 h
      refine h_blk 31 [(4, vr 5 ((q1.2 22 ((q1.2 8 o 8).toNat) a0.toNat).toNat)), (0, vr 8 o), (1, vi a0), (2, vi a1), (3, vi a2)] [vi a1] C f_hx_CS_cell_30_1 rfl ?_
      obtain ⟨c10, h⟩ := igd h
      refine h_if_lt (tgt := 43) C e_hx_CS_cell_31 (by decide) c10 (fun c11 => ?_) (fun c11 => ?_)
      · have h := ifp c11 h
        refine h_blk 45 [(4, vr 5 ((q1.2 22 ((q1.2 8 o 8).toNat) a0.toNat).toNat)), (0, vr 8 o), (1, vi a0), (2, vi a1), (3, vi a2)] [vi (-12)] C f_hx_CS_cell_43_1 rfl ?_
        exact h_iret C Rm E e_hx_CS_cell_45 (fin1 h)
      · have h := ifn c11 h
        refine h_blk 37 [(4, vr 5 ((q1.2 22 ((q1.2 8 o 8).toNat) a0.toNat).toNat)), (0, vr 8 o), (1, vi a0), (2, vi a1), (3, vi a2)] [vr 5 ((q1.2 22 ((q1.2 8 o 8).toNat) a0.toNat).toNat), vi a1] C f_hx_CS_cell_34_2 rfl ?_
        refine h_geti C e_hx_CS_cell_37 fg_CS_206 g7 rfl rfl rfl (q1.2 5 ((q1.2 22 ((q1.2 8 o 8).toNat) a0.toNat).toNat) 2) rfl ?_
        obtain ⟨c12, h⟩ := igd h
        refine h_icmp_lt (tgt := 46) C e_hx_CS_cell_40 (by decide) c10 c12 (fun c13 => ?_) (fun c13 => ?_)
        · have h := ifp c13 h
          refine h_blk 50 [(4, vr 5 ((q1.2 22 ((q1.2 8 o 8).toNat) a0.toNat).toNat)), (0, vr 8 o), (1, vi a0), (2, vi a1), (3, vi a2)] [vi a2, vi a1, vr 5 ((q1.2 22 ((q1.2 8 o 8).toNat) a0.toNat).toNat)] C f_hx_CS_cell_46_3 rfl ?_
          obtain ⟨q14, e15, h⟩ := obd h
          refine h_callV C Rm Y [vi a1, vi a2] [] (hx_Sheet_write l D B H0 G _ ((q1.2 22 ((q1.2 8 o 8).toNat) a0.toNat).toNat) a1 a2 g7 _ _ e15) cl_CS_231 g7 rfl rfl rfl e_hx_CS_cell_50 rfl rfl rfl ⟨by decide, by decide⟩ ?_
          rintro _ _ ⟨rfl, rfl⟩
          show HM g D G q q14.2 53 [(4, vr 5 ((q1.2 22 ((q1.2 8 o 8).toNat) a0.toNat).toNat)), (0, vr 8 o), (1, vi a0), (2, vi a1), (3, vi a2)] []
          refine h_blk 54 [(4, vr 5 ((q1.2 22 ((q1.2 8 o 8).toNat) a0.toNat).toNat)), (0, vr 8 o), (1, vi a0), (2, vi a1), (3, vi a2)] [vi 1] C f_hx_CS_cell_53_1 rfl ?_
          exact h_iret C Rm E e_hx_CS_cell_54 (fin1 h)
        · have h := ifn c13 h
          refine h_blk 45 [(4, vr 5 ((q1.2 22 ((q1.2 8 o 8).toNat) a0.toNat).toNat)), (0, vr 8 o), (1, vi a0), (2, vi a1), (3, vi a2)] [vi (-12)] C f_hx_CS_cell_43_1 rfl ?_
          exact h_iret C Rm E e_hx_CS_cell_45 (fin1 h)
    · have h := ifp c9 h
      refine h_blk 29 [(4, vr 5 ((q1.2 22 ((q1.2 8 o 8).toNat) a0.toNat).toNat)), (0, vr 8 o), (1, vi a0), (2, vi a1), (3, vi a2)] [vi (-11)] C f_hx_CS_cell_27_1 rfl ?_
      exact h_iret C Rm E e_hx_CS_cell_29 (fin1 h)
  · have h := ifp c4 h
    refine h_blk 9 [(0, vr 8 o), (1, vi a0), (2, vi a1), (3, vi a2)] [vi (-2)] C f_hx_CS_cell_7_1 rfl ?_
    exact h_iret C Rm E e_hx_CS_cell_9 (fin1 h)

def w_CS_programsThatTell_5 : Nat → Nat → tG → mA → Nat → Nat → Int → Int → Int → wQ → Prop
  | 0, _, _, _, _, _, _, _, _, _ => False
  | n + 1, k, G, A, b0, b1, b2, b3, b4, Q => (if g32 b4 then (if 6 ≤ b4 then (Q b3 A G k) else (∃ q3, f_CS_isProgram A b0 b4 = some q3 ∧ (if g32 q3.1 then (if q3.1 = 0 then (w_CS_programsThatTell_5  n k G q3.2 b0 b1 b2 (iOr b3 0) (b4 + 1) Q) else (if (0 ≤ b4 ∧ b4 < ((6 : Nat) : Int)) then (if 0 ≤ (q3.2 21 ((q3.2 8 b0 2).toNat) b4.toNat) then (w_Walk_endFrom k G q3.2 ((q3.2 8 b0 10).toNat) ((q3.2 21 ((q3.2 8 b0 2).toNat) b4.toNat).toNat) (q3.2 8 b0 4) (fun r12 A13 G14 k15 => (if 0 ≤ r12 then (∃ q22, f_CS_wouldTell A13 b0 b1 r12.toNat b2 = some q22 ∧ (if g32 q22.1 then (if q22.1 = 0 then (w_CS_programsThatTell_5  n k15 G14 q22.2 b0 b1 b2 (iOr b3 0) (b4 + 1) Q) else (w_CS_programsThatTell_5  n k15 G14 q22.2 b0 b1 b2 (iOr b3 (iShl 1 b4)) (b4 + 1) Q)) else False)) else (∃ q26, f_CS_wouldTell0 A13 b0 b1 b2 = some q26 ∧ (if g32 q26.1 then (if q26.1 = 0 then (w_CS_programsThatTell_5  n k15 G14 q26.2 b0 b1 b2 (iOr b3 0) (b4 + 1) Q) else (w_CS_programsThatTell_5  n k15 G14 q26.2 b0 b1 b2 (iOr b3 (iShl 1 b4)) (b4 + 1) Q)) else False))))) else False) else False)) else False))) else False)
def w_CS_programsThatTell (k0 : Nat) (G0 : tG) (A : mA) (o : Nat) (a0 : Nat) (a1 : Int) (Q : wQ) : Prop := (w_CS_programsThatTell_5  20 k0 G0 A o a0 a1 0 0 Q)
theorem f_wx_CS_programsThatTell_0_4 : mblkB b_CS_programsThatTell [(0, .iconst 0, vi 0), (1, .istore_n 3, vi 0), (2, .iconst 0, vi 0), (3, .istore 4, vi 0)] = true := by decide +kernel
theorem f_wx_CS_programsThatTell_5_2 : mblkB b_CS_programsThatTell [(5, .iload 4, vi 0), (7, .bipush 6, vi 6)] = true := by decide +kernel
theorem e_wx_CS_programsThatTell_9 : decode b_CS_programsThatTell 9 = .ok (.if_icmp .ge 56, 3) := by decide +kernel
theorem f_wx_CS_programsThatTell_65_1 : mblkB b_CS_programsThatTell [(65, .iload_n 3, vi 0)] = true := by decide +kernel
theorem e_wx_CS_programsThatTell_66 : decode b_CS_programsThatTell 66 = .ok (.ireturn, 1) := by decide +kernel
theorem f_wx_CS_programsThatTell_12_3 : mblkB b_CS_programsThatTell [(12, .iload_n 3, vi 0), (13, .aload_n 0, vi 0), (14, .iload 4, vi 0)] = true := by decide +kernel
theorem e_wx_CS_programsThatTell_16 : decode b_CS_programsThatTell 16 = .ok (.invokevirtual 94, 3) := by decide +kernel
theorem e_wx_CS_programsThatTell_19 : decode b_CS_programsThatTell 19 = .ok (.ifCond .eq 37, 3) := by decide +kernel
theorem f_wx_CS_programsThatTell_56_5 : mblkB b_CS_programsThatTell [(56, .iconst 0, vi 0), (57, .ior, vi 0), (58, .istore_n 3, vi 0), (59, .iinc 4 1, vi 1), (62, .goto (-57), vi 5)] = true := by decide +kernel
theorem f_wx_CS_programsThatTell_22_3 : mblkB b_CS_programsThatTell [(22, .aload_n 0, vi 0), (23, .aload_n 1, vi 0), (24, .aload_n 0, vi 0)] = true := by decide +kernel
theorem e_wx_CS_programsThatTell_25 : decode b_CS_programsThatTell 25 = .ok (.getfield 35, 3) := by decide +kernel
theorem f_wx_CS_programsThatTell_28_1 : mblkB b_CS_programsThatTell [(28, .aload_n 0, vi 0)] = true := by decide +kernel
theorem e_wx_CS_programsThatTell_29 : decode b_CS_programsThatTell 29 = .ok (.getfield 15, 3) := by decide +kernel
theorem f_wx_CS_programsThatTell_32_1 : mblkB b_CS_programsThatTell [(32, .iload 4, vi 0)] = true := by decide +kernel
theorem e_wx_CS_programsThatTell_34 : decode b_CS_programsThatTell 34 = .ok (.aaload, 1) := by decide +kernel
theorem f_wx_CS_programsThatTell_35_1 : mblkB b_CS_programsThatTell [(35, .aload_n 0, vi 0)] = true := by decide +kernel
theorem e_wx_CS_programsThatTell_36 : decode b_CS_programsThatTell 36 = .ok (.getfield 83, 3) := by decide +kernel
theorem e_wx_CS_programsThatTell_39 : decode b_CS_programsThatTell 39 = .ok (.invokevirtual 255, 3) := by decide +kernel
theorem f_wx_CS_programsThatTell_42_1 : mblkB b_CS_programsThatTell [(42, .iload_n 2, vi 0)] = true := by decide +kernel
theorem e_wx_CS_programsThatTell_43 : decode b_CS_programsThatTell 43 = .ok (.invokevirtual 259, 3) := by decide +kernel
theorem e_wx_CS_programsThatTell_46 : decode b_CS_programsThatTell 46 = .ok (.ifCond .eq 10, 3) := by decide +kernel
theorem f_wx_CS_programsThatTell_49_4 : mblkB b_CS_programsThatTell [(49, .iconst 1, vi 1), (50, .iload 4, vi 0), (52, .ishl, vi 0), (53, .goto 4, vi 57)] = true := by decide +kernel
theorem f_wx_CS_programsThatTell_57_4 : mblkB b_CS_programsThatTell [(57, .ior, vi 0), (58, .istore_n 3, vi 0), (59, .iinc 4 1, vi 1), (62, .goto (-57), vi 5)] = true := by decide +kernel
set_option maxHeartbeats 4000000 in
set_option maxRecDepth 20000 in
theorem wx_CS_programsThatTell  : ∀ (l : Launch) (D : va_G) (B : Nat) (H0 : Heap) (G0 : tG) (k0 : Nat) (A : mA) (o : Nat) (a0 : Nat) (a1 : Int) (h_o : G0 o = some 8) (h_a0 : G0 a0 = some 5)  (Q : wQ), w_CS_programsThatTell  k0 G0 A o a0 a1 Q → wMet l D B H0 G0 k0 y_CS_programsThatTell b_CS_programsThatTell 5 (some .int) 464 15113 1 [vr 8 o, vr 5 a0, vi a1] A Q := by
  intro l D B H0 G0 k0 A o a0 a1 h_o h_a0 Q h
  refine w_met (by decide) rfl (fun g q0 C Rm Y E => ?_)
  have hd_5 : ∀ (n : Nat) (k : Nat) (G : tG) (q : Nat × Nat) (hgo : ∀ a τ, G0 a = some τ → G a = some τ) (hb : wb q0 k0 q k) (A : mA) (b0 : Nat) (b1 : Nat) (b2 : Int) (b3 : Int) (b4 : Int) , G b0 = some 8 → G b1 = some 5 → w_CS_programsThatTell_5   n k G A b0 b1 b2 b3 b4 Q → HM g D G q A 5 [(0, vr 8 b0), (1, vr 5 b1), (2, vi b2), (3, vi b3), (4, vi b4)] [] := by
    intro  n
    induction n with
    | zero => intro k G q hgo hb A b0 b1 b2 b3 b4 h_b0 h_b1 h; exact h.elim
    | succ n ih =>
      intro k G q hgo hb A b0 b1 b2 b3 b4 h_b0 h_b1 h
      unfold w_CS_programsThatTell_5 at h
      refine h_blk 9 [(0, vr 8 b0), (1, vr 5 b1), (2, vi b2), (3, vi b3), (4, vi b4)] [vi 6, vi b4] C f_wx_CS_programsThatTell_5_2 rfl ?_
      obtain ⟨c1, h⟩ := wgd h
      refine h_icmp_ge (tgt := 65) C e_wx_CS_programsThatTell_9 (by decide) c1 (by decide) (fun c2 => ?_) (fun c2 => ?_)
      · have h := wfp c2 h
        refine h_blk 66 [(0, vr 8 b0), (1, vr 5 b1), (2, vi b2), (3, vi b3), (4, vi b4)] [vi b3] C f_wx_CS_programsThatTell_65_1 rfl ?_
        exact w_iret C Rm E hgo hb e_wx_CS_programsThatTell_66 h
      · have h := wfn c2 h
        refine h_blk 16 [(0, vr 8 b0), (1, vr 5 b1), (2, vi b2), (3, vi b3), (4, vi b4)] [vi b4, vr 8 b0, vi b3] C f_wx_CS_programsThatTell_12_3 rfl ?_
        obtain ⟨q3, e4, h⟩ := h
        refine w_callV C Rm Y hb [vi b4] [vi b3] (hx_CS_isProgram l D B H0 G _ b0 b4 h_b0 _ _ e4) cl_CS_94 h_b0 rfl rfl rfl e_wx_CS_programsThatTell_16 rfl rfl rfl ⟨by decide, by decide⟩ ?_
        rintro _ _ ⟨rfl, rfl⟩
        show HM g D G q q3.2 19 [(0, vr 8 b0), (1, vr 5 b1), (2, vi b2), (3, vi b3), (4, vi b4)] [vi q3.1, vi b3]
        obtain ⟨c5, h⟩ := wgd h
        refine h_if_eq (tgt := 56) C e_wx_CS_programsThatTell_19 (by decide) c5 (fun c6 => ?_) (fun c6 => ?_)
        · have h := wfp c6 h
          refine h_blk 5 [(4, vi (b4 + 1)), (3, vi (iOr b3 0)), (0, vr 8 b0), (1, vr 5 b1), (2, vi b2)] [] C f_wx_CS_programsThatTell_56_5 rfl ?_
          refine h_loc [(0, vr 8 b0), (1, vr 5 b1), (2, vi b2), (3, vi (iOr b3 0)), (4, vi (b4 + 1))] ⟨rfl, rfl, rfl, rfl, rfl, trivial⟩ ?_
          exact ih k G q hgo hb q3.2 b0 b1 b2 (iOr b3 0) (b4 + 1) (h_b0) (h_b1) h
        · have h := wfn c6 h
          refine h_blk 25 [(0, vr 8 b0), (1, vr 5 b1), (2, vi b2), (3, vi b3), (4, vi b4)] [vr 8 b0, vr 5 b1, vr 8 b0, vi b3] C f_wx_CS_programsThatTell_22_3 rfl ?_
          refine h_getr4 C e_wx_CS_programsThatTell_25 fg_CS_35 h_b0 rfl rfl rfl rfl (fun g7 => ?_)
          refine h_blk 29 [(0, vr 8 b0), (1, vr 5 b1), (2, vi b2), (3, vi b3), (4, vi b4)] [vr 8 b0, vr 7 ((q3.2 8 b0 10).toNat), vr 5 b1, vr 8 b0, vi b3] C f_wx_CS_programsThatTell_28_1 rfl ?_
          refine h_getr4 C e_wx_CS_programsThatTell_29 fg_CS_15 h_b0 rfl rfl rfl rfl (fun g8 => ?_)
          refine h_blk 34 [(0, vr 8 b0), (1, vr 5 b1), (2, vi b2), (3, vi b3), (4, vi b4)] [vi b4, vr 21 ((q3.2 8 b0 2).toNat), vr 7 ((q3.2 8 b0 10).toNat), vr 5 b1, vr 8 b0, vi b3] C f_wx_CS_programsThatTell_32_1 rfl ?_
          obtain ⟨c9, h⟩ := wgd h
          obtain ⟨c10, h⟩ := wgd h
          refine h_aald5 C e_wx_CS_programsThatTell_34 rfl rfl g8 rfl rfl rfl rfl (by decide) c9.1 c9.2 c10 (fun g11 => ?_)
          refine h_blk 36 [(0, vr 8 b0), (1, vr 5 b1), (2, vi b2), (3, vi b3), (4, vi b4)] [vr 8 b0, vr 2 ((q3.2 21 ((q3.2 8 b0 2).toNat) b4.toNat).toNat), vr 7 ((q3.2 8 b0 10).toNat), vr 5 b1, vr 8 b0, vi b3] C f_wx_CS_programsThatTell_35_1 rfl ?_
          refine h_geti C e_wx_CS_programsThatTell_36 fg_CS_83 h_b0 rfl rfl rfl (q3.2 8 b0 4) rfl ?_
          refine w_wV C Rm Y hb [vr 2 ((q3.2 21 ((q3.2 8 b0 2).toNat) b4.toNat).toNat), vi (q3.2 8 b0 4)] [vr 5 b1, vr 8 b0, vi b3] (wx_Walk_endFrom l D B H0 G k _ ((q3.2 8 b0 10).toNat) ((q3.2 21 ((q3.2 8 b0 2).toNat) b4.toNat).toNat) (q3.2 8 b0 4) g7 g11 _ h) cl_CS_255 g7 rfl rfl rfl e_wx_CS_programsThatTell_39 rfl rfl rfl ⟨by decide, by decide⟩ (fun r12 A13 G14 k15 q16 p17 y18 b19 => ?_)
          have h := p17
          refine wk3 (fun c20 g21 => ?_) (fun c20 => ?_)
          · have h := wfp c20 h
            refine h_blk 43 [(0, vr 8 b0), (1, vr 5 b1), (2, vi b2), (3, vi b3), (4, vi b4)] [vi b2, vr 0 r12.toNat, vr 5 b1, vr 8 b0, vi b3] C f_wx_CS_programsThatTell_42_1 rfl ?_
            obtain ⟨q22, e23, h⟩ := h
            refine w_callV C Rm Y b19 [vr 5 b1, vr 0 r12.toNat, vi b2] [vi b3] (hx_CS_wouldTell l D B H0 G14 _ b0 b1 r12.toNat b2 (y18 _ _ h_b0) (y18 _ _ h_b1) g21 _ _ e23) cl_CS_259 (y18 _ _ h_b0) rfl rfl rfl e_wx_CS_programsThatTell_43 rfl rfl rfl ⟨by decide, by decide⟩ ?_
            rintro _ _ ⟨rfl, rfl⟩
            show HM g D G14 q16 q22.2 46 [(0, vr 8 b0), (1, vr 5 b1), (2, vi b2), (3, vi b3), (4, vi b4)] [vi q22.1, vi b3]
            obtain ⟨c24, h⟩ := wgd h
            refine h_if_eq (tgt := 56) C e_wx_CS_programsThatTell_46 (by decide) c24 (fun c25 => ?_) (fun c25 => ?_)
            · have h := wfp c25 h
              refine h_blk 5 [(4, vi (b4 + 1)), (3, vi (iOr b3 0)), (0, vr 8 b0), (1, vr 5 b1), (2, vi b2)] [] C f_wx_CS_programsThatTell_56_5 rfl ?_
              refine h_loc [(0, vr 8 b0), (1, vr 5 b1), (2, vi b2), (3, vi (iOr b3 0)), (4, vi (b4 + 1))] ⟨rfl, rfl, rfl, rfl, rfl, trivial⟩ ?_
              exact ih k15 G14 q16 (fun a τ z => y18 a τ (hgo a τ z)) b19 q22.2 b0 b1 b2 (iOr b3 0) (b4 + 1) ((y18 _ _ h_b0)) ((y18 _ _ h_b1)) h
            · have h := wfn c25 h
              refine h_blk 57 [(0, vr 8 b0), (1, vr 5 b1), (2, vi b2), (3, vi b3), (4, vi b4)] [vi (iShl 1 b4), vi b3] C f_wx_CS_programsThatTell_49_4 rfl ?_
              refine h_blk 5 [(4, vi (b4 + 1)), (3, vi (iOr b3 (iShl 1 b4))), (0, vr 8 b0), (1, vr 5 b1), (2, vi b2)] [] C f_wx_CS_programsThatTell_57_4 rfl ?_
              refine h_loc [(0, vr 8 b0), (1, vr 5 b1), (2, vi b2), (3, vi (iOr b3 (iShl 1 b4))), (4, vi (b4 + 1))] ⟨rfl, rfl, rfl, rfl, rfl, trivial⟩ ?_
              exact ih k15 G14 q16 (fun a τ z => y18 a τ (hgo a τ z)) b19 q22.2 b0 b1 b2 (iOr b3 (iShl 1 b4)) (b4 + 1) ((y18 _ _ h_b0)) ((y18 _ _ h_b1)) h
          · have h := wfn (by omega)  h
            refine h_blk 43 [(0, vr 8 b0), (1, vr 5 b1), (2, vi b2), (3, vi b3), (4, vi b4)] [vi b2, vn, vr 5 b1, vr 8 b0, vi b3] C f_wx_CS_programsThatTell_42_1 rfl ?_
            obtain ⟨q26, e27, h⟩ := h
            refine w_callV C Rm Y b19 [vr 5 b1, vn, vi b2] [vi b3] (hx_CS_wouldTell0 l D B H0 G14 _ b0 b1 b2 (y18 _ _ h_b0) (y18 _ _ h_b1) _ _ e27) cl_CS_259 (y18 _ _ h_b0) rfl rfl rfl e_wx_CS_programsThatTell_43 rfl rfl rfl ⟨by decide, by decide⟩ ?_
            rintro _ _ ⟨rfl, rfl⟩
            show HM g D G14 q16 q26.2 46 [(0, vr 8 b0), (1, vr 5 b1), (2, vi b2), (3, vi b3), (4, vi b4)] [vi q26.1, vi b3]
            obtain ⟨c28, h⟩ := wgd h
            refine h_if_eq (tgt := 56) C e_wx_CS_programsThatTell_46 (by decide) c28 (fun c29 => ?_) (fun c29 => ?_)
            · have h := wfp c29 h
              refine h_blk 5 [(4, vi (b4 + 1)), (3, vi (iOr b3 0)), (0, vr 8 b0), (1, vr 5 b1), (2, vi b2)] [] C f_wx_CS_programsThatTell_56_5 rfl ?_
              refine h_loc [(0, vr 8 b0), (1, vr 5 b1), (2, vi b2), (3, vi (iOr b3 0)), (4, vi (b4 + 1))] ⟨rfl, rfl, rfl, rfl, rfl, trivial⟩ ?_
              exact ih k15 G14 q16 (fun a τ z => y18 a τ (hgo a τ z)) b19 q26.2 b0 b1 b2 (iOr b3 0) (b4 + 1) ((y18 _ _ h_b0)) ((y18 _ _ h_b1)) h
            · have h := wfn c29 h
              refine h_blk 57 [(0, vr 8 b0), (1, vr 5 b1), (2, vi b2), (3, vi b3), (4, vi b4)] [vi (iShl 1 b4), vi b3] C f_wx_CS_programsThatTell_49_4 rfl ?_
              refine h_blk 5 [(4, vi (b4 + 1)), (3, vi (iOr b3 (iShl 1 b4))), (0, vr 8 b0), (1, vr 5 b1), (2, vi b2)] [] C f_wx_CS_programsThatTell_57_4 rfl ?_
              refine h_loc [(0, vr 8 b0), (1, vr 5 b1), (2, vi b2), (3, vi (iOr b3 (iShl 1 b4))), (4, vi (b4 + 1))] ⟨rfl, rfl, rfl, rfl, rfl, trivial⟩ ?_
              exact ih k15 G14 q16 (fun a τ z => y18 a τ (hgo a τ z)) b19 q26.2 b0 b1 b2 (iOr b3 (iShl 1 b4)) (b4 + 1) ((y18 _ _ h_b0)) ((y18 _ _ h_b1)) h
  show HM g D G0 q0 A 0 [(0, vr 8 o), (1, vr 5 a0), (2, vi a1)] []
  unfold w_CS_programsThatTell at h
  refine h_blk 5 [(4, vi 0), (3, vi 0), (0, vr 8 o), (1, vr 5 a0), (2, vi a1)] [] C f_wx_CS_programsThatTell_0_4 rfl ?_
  refine h_loc [(0, vr 8 o), (1, vr 5 a0), (2, vi a1), (3, vi 0), (4, vi 0)] ⟨rfl, rfl, rfl, rfl, rfl, trivial⟩ ?_
  exact hd_5 _ k0 G0 q0 (fun _ _ z => z) wb.rfl' A o a0 a1 0 0 (h_o) (h_a0) h

def w_CS_startsThatTell_16 : Nat → Nat → tG → mA → Nat → Nat → Int → Int → Int → Int → Int → wQ → Prop
  | 0, _, _, _, _, _, _, _, _, _, _, _ => False
  | n + 1, k, G, A, b0, b1, b2, b3, b4, b5, b6, Q => (if g32 b6 then (if 10 < b6 then (Q b4 A G k) else (if g32 (b5 + b6) then (if (0 ≤ b2 ∧ b2 < ((6 : Nat) : Int)) then (if 0 ≤ (A 21 ((A 8 b0 2).toNat) b2.toNat) then (∃ q9, f_CS_withDigit A (A 8 b0 4) 0 (Int.tmod (b5 + b6) 10) = some q9 ∧ (w_Walk_endFrom k G q9.2 ((A 8 b0 10).toNat) ((A 21 ((A 8 b0 2).toNat) b2.toNat).toNat) q9.1 (fun r11 A12 G13 k14 => (if 0 ≤ r11 then (∃ q21, f_CS_wouldTell A12 b0 b1 r11.toNat b3 = some q21 ∧ (if g32 q21.1 then (if q21.1 = 0 then (w_CS_startsThatTell_16  n k14 G13 q21.2 b0 b1 b2 b3 (iOr b4 0) b5 (b6 + 1) Q) else (w_CS_startsThatTell_16  n k14 G13 q21.2 b0 b1 b2 b3 (iOr b4 (iShl 1 (Int.tmod (b5 + b6) 10))) b5 (b6 + 1) Q)) else False)) else (∃ q25, f_CS_wouldTell0 A12 b0 b1 b3 = some q25 ∧ (if g32 q25.1 then (if q25.1 = 0 then (w_CS_startsThatTell_16  n k14 G13 q25.2 b0 b1 b2 b3 (iOr b4 0) b5 (b6 + 1) Q) else (w_CS_startsThatTell_16  n k14 G13 q25.2 b0 b1 b2 b3 (iOr b4 (iShl 1 (Int.tmod (b5 + b6) 10))) b5 (b6 + 1) Q)) else False)))))) else False) else False) else False)) else False)
def w_CS_startsThatTell (k0 : Nat) (G0 : tG) (A : mA) (o : Nat) (a0 : Nat) (a1 : Int) (a2 : Int) (Q : wQ) : Prop := (∃ q29, f_CS_digitAt A (A 8 o 4) 0 = some q29 ∧ (w_CS_startsThatTell_16  20 k0 G0 q29.2 o a0 a1 a2 0 q29.1 1 Q))
theorem f_wx_CS_startsThatTell_0_3 : mblkB b_CS_startsThatTell [(0, .iconst 0, vi 0), (1, .istore 4, vi 0), (3, .aload_n 0, vi 0)] = true := by decide +kernel
theorem e_wx_CS_startsThatTell_4 : decode b_CS_startsThatTell 4 = .ok (.getfield 83, 3) := by decide +kernel
theorem f_wx_CS_startsThatTell_7_1 : mblkB b_CS_startsThatTell [(7, .iconst 0, vi 0)] = true := by decide +kernel
theorem e_wx_CS_startsThatTell_8 : decode b_CS_startsThatTell 8 = .ok (.invokestatic 86, 3) := by decide +kernel
theorem f_wx_CS_startsThatTell_11_3 : mblkB b_CS_startsThatTell [(11, .istore 5, vi 0), (13, .iconst 1, vi 1), (14, .istore 6, vi 0)] = true := by decide +kernel
theorem f_wx_CS_startsThatTell_16_2 : mblkB b_CS_startsThatTell [(16, .iload 6, vi 0), (18, .bipush 10, vi 10)] = true := by decide +kernel
theorem e_wx_CS_startsThatTell_20 : decode b_CS_startsThatTell 20 = .ok (.if_icmp .gt 68, 3) := by decide +kernel
theorem f_wx_CS_startsThatTell_88_1 : mblkB b_CS_startsThatTell [(88, .iload 4, vi 0)] = true := by decide +kernel
theorem e_wx_CS_startsThatTell_90 : decode b_CS_startsThatTell 90 = .ok (.ireturn, 1) := by decide +kernel
theorem f_wx_CS_startsThatTell_23_4 : mblkB b_CS_startsThatTell [(23, .iload 5, vi 0), (25, .iload 6, vi 0), (27, .iadd, vi 0), (28, .bipush 10, vi 10)] = true := by decide +kernel
theorem e_wx_CS_startsThatTell_30 : decode b_CS_startsThatTell 30 = .ok (.irem, 1) := by decide +kernel
theorem f_wx_CS_startsThatTell_31_2 : mblkB b_CS_startsThatTell [(31, .istore 7, vi 0), (33, .aload_n 0, vi 0)] = true := by decide +kernel
theorem e_wx_CS_startsThatTell_34 : decode b_CS_startsThatTell 34 = .ok (.getfield 35, 3) := by decide +kernel
theorem f_wx_CS_startsThatTell_37_1 : mblkB b_CS_startsThatTell [(37, .aload_n 0, vi 0)] = true := by decide +kernel
theorem e_wx_CS_startsThatTell_38 : decode b_CS_startsThatTell 38 = .ok (.getfield 15, 3) := by decide +kernel
theorem f_wx_CS_startsThatTell_41_1 : mblkB b_CS_startsThatTell [(41, .iload_n 2, vi 0)] = true := by decide +kernel
theorem e_wx_CS_startsThatTell_42 : decode b_CS_startsThatTell 42 = .ok (.aaload, 1) := by decide +kernel
theorem f_wx_CS_startsThatTell_43_1 : mblkB b_CS_startsThatTell [(43, .aload_n 0, vi 0)] = true := by decide +kernel
theorem e_wx_CS_startsThatTell_44 : decode b_CS_startsThatTell 44 = .ok (.getfield 83, 3) := by decide +kernel
theorem f_wx_CS_startsThatTell_47_2 : mblkB b_CS_startsThatTell [(47, .iconst 0, vi 0), (48, .iload 7, vi 0)] = true := by decide +kernel
theorem e_wx_CS_startsThatTell_50 : decode b_CS_startsThatTell 50 = .ok (.invokestatic 90, 3) := by decide +kernel
theorem e_wx_CS_startsThatTell_53 : decode b_CS_startsThatTell 53 = .ok (.invokevirtual 255, 3) := by decide +kernel
theorem f_wx_CS_startsThatTell_56_6 : mblkB b_CS_startsThatTell [(56, .astore 8, vi 0), (58, .iload 4, vi 0), (60, .aload_n 0, vi 0), (61, .aload_n 1, vi 0), (62, .aload 8, vi 0), (64, .iload_n 3, vi 0)] = true := by decide +kernel
theorem e_wx_CS_startsThatTell_65 : decode b_CS_startsThatTell 65 = .ok (.invokevirtual 259, 3) := by decide +kernel
theorem e_wx_CS_startsThatTell_68 : decode b_CS_startsThatTell 68 = .ok (.ifCond .eq 10, 3) := by decide +kernel
theorem f_wx_CS_startsThatTell_78_5 : mblkB b_CS_startsThatTell [(78, .iconst 0, vi 0), (79, .ior, vi 0), (80, .istore 4, vi 0), (82, .iinc 6 1, vi 1), (85, .goto (-69), vi 16)] = true := by decide +kernel
theorem f_wx_CS_startsThatTell_71_4 : mblkB b_CS_startsThatTell [(71, .iconst 1, vi 1), (72, .iload 7, vi 0), (74, .ishl, vi 0), (75, .goto 4, vi 79)] = true := by decide +kernel
theorem f_wx_CS_startsThatTell_79_4 : mblkB b_CS_startsThatTell [(79, .ior, vi 0), (80, .istore 4, vi 0), (82, .iinc 6 1, vi 1), (85, .goto (-69), vi 16)] = true := by decide +kernel
set_option maxHeartbeats 4000000 in
set_option maxRecDepth 20000 in
theorem wx_CS_startsThatTell  : ∀ (l : Launch) (D : va_G) (B : Nat) (H0 : Heap) (G0 : tG) (k0 : Nat) (A : mA) (o : Nat) (a0 : Nat) (a1 : Int) (a2 : Int) (h_o : G0 o = some 8) (h_a0 : G0 a0 = some 5)  (Q : wQ), w_CS_startsThatTell  k0 G0 A o a0 a1 a2 Q → wMet l D B H0 G0 k0 y_CS_startsThatTell b_CS_startsThatTell 9 (some .int) 464 15113 1 [vr 8 o, vr 5 a0, vi a1, vi a2] A Q := by
  intro l D B H0 G0 k0 A o a0 a1 a2 h_o h_a0 Q h
  refine w_met (by decide) rfl (fun g q0 C Rm Y E => ?_)
  have hd_16 : ∀ (n : Nat) (k : Nat) (G : tG) (q : Nat × Nat) (hgo : ∀ a τ, G0 a = some τ → G a = some τ) (hb : wb q0 k0 q k) (A : mA) (b0 : Nat) (b1 : Nat) (b2 : Int) (b3 : Int) (b4 : Int) (b5 : Int) (b6 : Int) , G b0 = some 8 → G b1 = some 5 → w_CS_startsThatTell_16   n k G A b0 b1 b2 b3 b4 b5 b6 Q → HM g D G q A 16 [(0, vr 8 b0), (1, vr 5 b1), (2, vi b2), (3, vi b3), (4, vi b4), (5, vi b5), (6, vi b6)] [] := by
    intro  n
    induction n with
    | zero => intro k G q hgo hb A b0 b1 b2 b3 b4 b5 b6 h_b0 h_b1 h; exact h.elim
    | succ n ih =>
      intro k G q hgo hb A b0 b1 b2 b3 b4 b5 b6 h_b0 h_b1 h
      unfold w_CS_startsThatTell_16 at h
      refine h_blk 20 [(0, vr 8 b0), (1, vr 5 b1), (2, vi b2), (3, vi b3), (4, vi b4), (5, vi b5), (6, vi b6)] [vi 10, vi b6] C f_wx_CS_startsThatTell_16_2 rfl ?_
      obtain ⟨c1, h⟩ := wgd h
      refine h_icmp_gt (tgt := 88) C e_wx_CS_startsThatTell_20 (by decide) c1 (by decide) (fun c2 => ?_) (fun c2 => ?_)
      · have h := wfp c2 h
        refine h_blk 90 [(0, vr 8 b0), (1, vr 5 b1), (2, vi b2), (3, vi b3), (4, vi b4), (5, vi b5), (6, vi b6)] [vi b4] C f_wx_CS_startsThatTell_88_1 rfl ?_
        exact w_iret C Rm E hgo hb e_wx_CS_startsThatTell_90 h
      · have h := wfn c2 h
        refine h_blk 30 [(0, vr 8 b0), (1, vr 5 b1), (2, vi b2), (3, vi b3), (4, vi b4), (5, vi b5), (6, vi b6)] [vi 10, vi (b5 + b6)] C f_wx_CS_startsThatTell_23_4 rfl ?_
        obtain ⟨c3, h⟩ := wgd h
        refine h_irem C e_wx_CS_startsThatTell_30 c3 (by decide) (by decide) ?_
        refine h_blk 34 [(7, vi (Int.tmod (b5 + b6) 10)), (0, vr 8 b0), (1, vr 5 b1), (2, vi b2), (3, vi b3), (4, vi b4), (5, vi b5), (6, vi b6)] [vr 8 b0] C f_wx_CS_startsThatTell_31_2 rfl ?_
        refine h_getr4 C e_wx_CS_startsThatTell_34 fg_CS_35 h_b0 rfl rfl rfl rfl (fun g4 => ?_)
        refine h_blk 38 [(7, vi (Int.tmod (b5 + b6) 10)), (0, vr 8 b0), (1, vr 5 b1), (2, vi b2), (3, vi b3), (4, vi b4), (5, vi b5), (6, vi b6)] [vr 8 b0, vr 7 ((A 8 b0 10).toNat)] C f_wx_CS_startsThatTell_37_1 rfl ?_
        refine h_getr4 C e_wx_CS_startsThatTell_38 fg_CS_15 h_b0 rfl rfl rfl rfl (fun g5 => ?_)
        refine h_blk 42 [(7, vi (Int.tmod (b5 + b6) 10)), (0, vr 8 b0), (1, vr 5 b1), (2, vi b2), (3, vi b3), (4, vi b4), (5, vi b5), (6, vi b6)] [vi b2, vr 21 ((A 8 b0 2).toNat), vr 7 ((A 8 b0 10).toNat)] C f_wx_CS_startsThatTell_41_1 rfl ?_
        obtain ⟨c6, h⟩ := wgd h
        obtain ⟨c7, h⟩ := wgd h
        refine h_aald5 C e_wx_CS_startsThatTell_42 rfl rfl g5 rfl rfl rfl rfl (by decide) c6.1 c6.2 c7 (fun g8 => ?_)
        refine h_blk 44 [(7, vi (Int.tmod (b5 + b6) 10)), (0, vr 8 b0), (1, vr 5 b1), (2, vi b2), (3, vi b3), (4, vi b4), (5, vi b5), (6, vi b6)] [vr 8 b0, vr 2 ((A 21 ((A 8 b0 2).toNat) b2.toNat).toNat), vr 7 ((A 8 b0 10).toNat)] C f_wx_CS_startsThatTell_43_1 rfl ?_
        refine h_geti C e_wx_CS_startsThatTell_44 fg_CS_83 h_b0 rfl rfl rfl (A 8 b0 4) rfl ?_
        refine h_blk 50 [(7, vi (Int.tmod (b5 + b6) 10)), (0, vr 8 b0), (1, vr 5 b1), (2, vi b2), (3, vi b3), (4, vi b4), (5, vi b5), (6, vi b6)] [vi (Int.tmod (b5 + b6) 10), vi 0, vi (A 8 b0 4), vr 2 ((A 21 ((A 8 b0 2).toNat) b2.toNat).toNat), vr 7 ((A 8 b0 10).toNat)] C f_wx_CS_startsThatTell_47_2 rfl ?_
        obtain ⟨q9, e10, h⟩ := h
        refine w_callS C Rm Y hb [vi (A 8 b0 4), vi 0, vi (Int.tmod (b5 + b6) 10)] [vr 2 ((A 21 ((A 8 b0 2).toNat) b2.toNat).toNat), vr 7 ((A 8 b0 10).toNat)] (hx_CS_withDigit l D B H0 G _ (A 8 b0 4) 0 (Int.tmod (b5 + b6) 10) _ _ e10) cl_CS_90 e_wx_CS_startsThatTell_50 rfl rfl rfl ⟨by decide, by decide⟩ ?_
        rintro _ _ ⟨rfl, rfl⟩
        show HM g D G q q9.2 53 [(7, vi (Int.tmod (b5 + b6) 10)), (0, vr 8 b0), (1, vr 5 b1), (2, vi b2), (3, vi b3), (4, vi b4), (5, vi b5), (6, vi b6)] [vi q9.1, vr 2 ((A 21 ((A 8 b0 2).toNat) b2.toNat).toNat), vr 7 ((A 8 b0 10).toNat)]
        refine w_wV C Rm Y hb [vr 2 ((A 21 ((A 8 b0 2).toNat) b2.toNat).toNat), vi q9.1] [] (wx_Walk_endFrom l D B H0 G k _ ((A 8 b0 10).toNat) ((A 21 ((A 8 b0 2).toNat) b2.toNat).toNat) q9.1 g4 g8 _ h) cl_CS_255 g4 rfl rfl rfl e_wx_CS_startsThatTell_53 rfl rfl rfl ⟨by decide, by decide⟩ (fun r11 A12 G13 k14 q15 p16 y17 b18 => ?_)
        have h := p16
        refine wk3 (fun c19 g20 => ?_) (fun c19 => ?_)
        · have h := wfp c19 h
          refine h_blk 65 [(8, vr 0 r11.toNat), (7, vi (Int.tmod (b5 + b6) 10)), (0, vr 8 b0), (1, vr 5 b1), (2, vi b2), (3, vi b3), (4, vi b4), (5, vi b5), (6, vi b6)] [vi b3, vr 0 r11.toNat, vr 5 b1, vr 8 b0, vi b4] C f_wx_CS_startsThatTell_56_6 rfl ?_
          obtain ⟨q21, e22, h⟩ := h
          refine w_callV C Rm Y b18 [vr 5 b1, vr 0 r11.toNat, vi b3] [vi b4] (hx_CS_wouldTell l D B H0 G13 _ b0 b1 r11.toNat b3 (y17 _ _ h_b0) (y17 _ _ h_b1) g20 _ _ e22) cl_CS_259 (y17 _ _ h_b0) rfl rfl rfl e_wx_CS_startsThatTell_65 rfl rfl rfl ⟨by decide, by decide⟩ ?_
          rintro _ _ ⟨rfl, rfl⟩
          show HM g D G13 q15 q21.2 68 [(8, vr 0 r11.toNat), (7, vi (Int.tmod (b5 + b6) 10)), (0, vr 8 b0), (1, vr 5 b1), (2, vi b2), (3, vi b3), (4, vi b4), (5, vi b5), (6, vi b6)] [vi q21.1, vi b4]
          obtain ⟨c23, h⟩ := wgd h
          refine h_if_eq (tgt := 78) C e_wx_CS_startsThatTell_68 (by decide) c23 (fun c24 => ?_) (fun c24 => ?_)
          · have h := wfp c24 h
            refine h_blk 16 [(6, vi (b6 + 1)), (4, vi (iOr b4 0)), (8, vr 0 r11.toNat), (7, vi (Int.tmod (b5 + b6) 10)), (0, vr 8 b0), (1, vr 5 b1), (2, vi b2), (3, vi b3), (5, vi b5)] [] C f_wx_CS_startsThatTell_78_5 rfl ?_
            refine h_loc [(0, vr 8 b0), (1, vr 5 b1), (2, vi b2), (3, vi b3), (4, vi (iOr b4 0)), (5, vi b5), (6, vi (b6 + 1))] ⟨rfl, rfl, rfl, rfl, rfl, rfl, rfl, trivial⟩ ?_
            exact ih k14 G13 q15 (fun a τ z => y17 a τ (hgo a τ z)) b18 q21.2 b0 b1 b2 b3 (iOr b4 0) b5 (b6 + 1) ((y17 _ _ h_b0)) ((y17 _ _ h_b1)) h
          · have h := wfn c24 h
            refine h_blk 79 [(8, vr 0 r11.toNat), (7, vi (Int.tmod (b5 + b6) 10)), (0, vr 8 b0), (1, vr 5 b1), (2, vi b2), (3, vi b3), (4, vi b4), (5, vi b5), (6, vi b6)] [vi (iShl 1 (Int.tmod (b5 + b6) 10)), vi b4] C f_wx_CS_startsThatTell_71_4 rfl ?_
            refine h_blk 16 [(6, vi (b6 + 1)), (4, vi (iOr b4 (iShl 1 (Int.tmod (b5 + b6) 10)))), (8, vr 0 r11.toNat), (7, vi (Int.tmod (b5 + b6) 10)), (0, vr 8 b0), (1, vr 5 b1), (2, vi b2), (3, vi b3), (5, vi b5)] [] C f_wx_CS_startsThatTell_79_4 rfl ?_
            refine h_loc [(0, vr 8 b0), (1, vr 5 b1), (2, vi b2), (3, vi b3), (4, vi (iOr b4 (iShl 1 (Int.tmod (b5 + b6) 10)))), (5, vi b5), (6, vi (b6 + 1))] ⟨rfl, rfl, rfl, rfl, rfl, rfl, rfl, trivial⟩ ?_
            exact ih k14 G13 q15 (fun a τ z => y17 a τ (hgo a τ z)) b18 q21.2 b0 b1 b2 b3 (iOr b4 (iShl 1 (Int.tmod (b5 + b6) 10))) b5 (b6 + 1) ((y17 _ _ h_b0)) ((y17 _ _ h_b1)) h
        · have h := wfn (by omega)  h
          refine h_blk 65 [(8, vn), (7, vi (Int.tmod (b5 + b6) 10)), (0, vr 8 b0), (1, vr 5 b1), (2, vi b2), (3, vi b3), (4, vi b4), (5, vi b5), (6, vi b6)] [vi b3, vn, vr 5 b1, vr 8 b0, vi b4] C f_wx_CS_startsThatTell_56_6 rfl ?_
          obtain ⟨q25, e26, h⟩ := h
          refine w_callV C Rm Y b18 [vr 5 b1, vn, vi b3] [vi b4] (hx_CS_wouldTell0 l D B H0 G13 _ b0 b1 b3 (y17 _ _ h_b0) (y17 _ _ h_b1) _ _ e26) cl_CS_259 (y17 _ _ h_b0) rfl rfl rfl e_wx_CS_startsThatTell_65 rfl rfl rfl ⟨by decide, by decide⟩ ?_
          rintro _ _ ⟨rfl, rfl⟩
          show HM g D G13 q15 q25.2 68 [(8, vn), (7, vi (Int.tmod (b5 + b6) 10)), (0, vr 8 b0), (1, vr 5 b1), (2, vi b2), (3, vi b3), (4, vi b4), (5, vi b5), (6, vi b6)] [vi q25.1, vi b4]
          obtain ⟨c27, h⟩ := wgd h
          refine h_if_eq (tgt := 78) C e_wx_CS_startsThatTell_68 (by decide) c27 (fun c28 => ?_) (fun c28 => ?_)
          · have h := wfp c28 h
            refine h_blk 16 [(6, vi (b6 + 1)), (4, vi (iOr b4 0)), (8, vn), (7, vi (Int.tmod (b5 + b6) 10)), (0, vr 8 b0), (1, vr 5 b1), (2, vi b2), (3, vi b3), (5, vi b5)] [] C f_wx_CS_startsThatTell_78_5 rfl ?_
            refine h_loc [(0, vr 8 b0), (1, vr 5 b1), (2, vi b2), (3, vi b3), (4, vi (iOr b4 0)), (5, vi b5), (6, vi (b6 + 1))] ⟨rfl, rfl, rfl, rfl, rfl, rfl, rfl, trivial⟩ ?_
            exact ih k14 G13 q15 (fun a τ z => y17 a τ (hgo a τ z)) b18 q25.2 b0 b1 b2 b3 (iOr b4 0) b5 (b6 + 1) ((y17 _ _ h_b0)) ((y17 _ _ h_b1)) h
          · have h := wfn c28 h
            refine h_blk 79 [(8, vn), (7, vi (Int.tmod (b5 + b6) 10)), (0, vr 8 b0), (1, vr 5 b1), (2, vi b2), (3, vi b3), (4, vi b4), (5, vi b5), (6, vi b6)] [vi (iShl 1 (Int.tmod (b5 + b6) 10)), vi b4] C f_wx_CS_startsThatTell_71_4 rfl ?_
            refine h_blk 16 [(6, vi (b6 + 1)), (4, vi (iOr b4 (iShl 1 (Int.tmod (b5 + b6) 10)))), (8, vn), (7, vi (Int.tmod (b5 + b6) 10)), (0, vr 8 b0), (1, vr 5 b1), (2, vi b2), (3, vi b3), (5, vi b5)] [] C f_wx_CS_startsThatTell_79_4 rfl ?_
            refine h_loc [(0, vr 8 b0), (1, vr 5 b1), (2, vi b2), (3, vi b3), (4, vi (iOr b4 (iShl 1 (Int.tmod (b5 + b6) 10)))), (5, vi b5), (6, vi (b6 + 1))] ⟨rfl, rfl, rfl, rfl, rfl, rfl, rfl, trivial⟩ ?_
            exact ih k14 G13 q15 (fun a τ z => y17 a τ (hgo a τ z)) b18 q25.2 b0 b1 b2 b3 (iOr b4 (iShl 1 (Int.tmod (b5 + b6) 10))) b5 (b6 + 1) ((y17 _ _ h_b0)) ((y17 _ _ h_b1)) h
  show HM g D G0 q0 A 0 [(0, vr 8 o), (1, vr 5 a0), (2, vi a1), (3, vi a2)] []
  unfold w_CS_startsThatTell at h
  refine h_blk 4 [(4, vi 0), (0, vr 8 o), (1, vr 5 a0), (2, vi a1), (3, vi a2)] [vr 8 o] C f_wx_CS_startsThatTell_0_3 rfl ?_
  refine h_geti C e_wx_CS_startsThatTell_4 fg_CS_83 h_o rfl rfl rfl (A 8 o 4) rfl ?_
  refine h_blk 8 [(4, vi 0), (0, vr 8 o), (1, vr 5 a0), (2, vi a1), (3, vi a2)] [vi 0, vi (A 8 o 4)] C f_wx_CS_startsThatTell_7_1 rfl ?_
  obtain ⟨q29, e30, h⟩ := h
  refine w_callS C Rm Y wb.rfl' [vi (A 8 o 4), vi 0] [] (hx_CS_digitAt l D B H0 G0 _ (A 8 o 4) 0 _ _ e30) cl_CS_86 e_wx_CS_startsThatTell_8 rfl rfl rfl ⟨by decide, by decide⟩ ?_
  rintro _ _ ⟨rfl, rfl⟩
  show HM g D G0 q0 q29.2 11 [(4, vi 0), (0, vr 8 o), (1, vr 5 a0), (2, vi a1), (3, vi a2)] [vi q29.1]
  refine h_blk 16 [(6, vi 1), (5, vi q29.1), (4, vi 0), (0, vr 8 o), (1, vr 5 a0), (2, vi a1), (3, vi a2)] [] C f_wx_CS_startsThatTell_11_3 rfl ?_
  refine h_loc [(0, vr 8 o), (1, vr 5 a0), (2, vi a1), (3, vi a2), (4, vi 0), (5, vi q29.1), (6, vi 1)] ⟨rfl, rfl, rfl, rfl, rfl, rfl, rfl, trivial⟩ ?_
  exact hd_16 _ k0 G0 q0 (fun _ _ z => z) wb.rfl' q29.2 o a0 a1 a2 0 q29.1 1 (h_o) (h_a0) h

def w_CS_told (k0 : Nat) (G0 : tG) (A : mA) (o : Nat) (a0 : Int) (a1 : Int) (Q : wQ) : Prop := (∃ q1, f_CS_isProgram A o a0 = some q1 ∧ (if g32 q1.1 then (if q1.1 = 0 then (Q (-2) q1.2 G0 k0) else (if g32 a1 then (if a1 < 0 then (Q (-2) q1.2 G0 k0) else (if a1 ≤ 6 then (if (0 ≤ a0 ∧ a0 < ((6 : Nat) : Int)) then (if 0 ≤ (q1.2 21 ((q1.2 8 o 2).toNat) a0.toNat) then (if a1 = 0 then (Q (q1.2 2 ((q1.2 21 ((q1.2 8 o 2).toNat) a0.toNat).toNat) 1) q1.2 G0 k0) else if a1 = 1 then (Q (q1.2 2 ((q1.2 21 ((q1.2 8 o 2).toNat) a0.toNat).toNat) 8) q1.2 G0 k0) else if a1 = 2 then (if g32 (q1.2 2 ((q1.2 21 ((q1.2 8 o 2).toNat) a0.toNat).toNat) 11) then (if (q1.2 2 ((q1.2 21 ((q1.2 8 o 2).toNat) a0.toNat).toNat) 11) = 0 then (Q 0 q1.2 G0 k0) else (Q 1 q1.2 G0 k0)) else False) else if a1 = 3 then (Q (q1.2 2 ((q1.2 21 ((q1.2 8 o 2).toNat) a0.toNat).toNat) 10) q1.2 G0 k0) else if a1 = 4 then (w_CS_endOf k0 G0 q1.2 o a0 (fun r19 A20 G21 k22 => (if 0 ≤ r19 then (Q 0 A20 G21 k22) else (Q 1 A20 G21 k22)))) else if a1 = 5 then (w_CS_endOf k0 G0 q1.2 o a0 (fun r30 A31 G32 k33 => (if 0 ≤ r30 then (Q (A31 0 r30.toNat 2) A31 G32 k33) else (Q (-6) A31 G32 k33)))) else (Q (q1.2 2 ((q1.2 21 ((q1.2 8 o 2).toNat) a0.toNat).toNat) 9) q1.2 G0 k0)) else False) else False) else (Q (-2) q1.2 G0 k0))) else False)) else False))
theorem f_wx_CS_told_0_2 : mblkB b_CS_told [(0, .aload_n 0, vi 0), (1, .iload_n 1, vi 0)] = true := by decide +kernel
theorem e_wx_CS_told_2 : decode b_CS_told 2 = .ok (.invokevirtual 94, 3) := by decide +kernel
theorem e_wx_CS_told_5 : decode b_CS_told 5 = .ok (.ifCond .eq 13, 3) := by decide +kernel
theorem f_wx_CS_told_18_1 : mblkB b_CS_told [(18, .bipush (-2), vi (-2))] = true := by decide +kernel
theorem e_wx_CS_told_20 : decode b_CS_told 20 = .ok (.ireturn, 1) := by decide +kernel
theorem f_wx_CS_told_8_1 : mblkB b_CS_told [(8, .iload_n 2, vi 0)] = true := by decide +kernel
theorem e_wx_CS_told_9 : decode b_CS_told 9 = .ok (.ifCond .lt 9, 3) := by decide +kernel
theorem f_wx_CS_told_12_2 : mblkB b_CS_told [(12, .iload_n 2, vi 0), (13, .bipush 6, vi 6)] = true := by decide +kernel
theorem e_wx_CS_told_15 : decode b_CS_told 15 = .ok (.if_icmp .le 6, 3) := by decide +kernel
theorem f_wx_CS_told_21_1 : mblkB b_CS_told [(21, .aload_n 0, vi 0)] = true := by decide +kernel
theorem e_wx_CS_told_22 : decode b_CS_told 22 = .ok (.getfield 15, 3) := by decide +kernel
theorem f_wx_CS_told_25_1 : mblkB b_CS_told [(25, .iload_n 1, vi 0)] = true := by decide +kernel
theorem e_wx_CS_told_26 : decode b_CS_told 26 = .ok (.aaload, 1) := by decide +kernel
theorem f_wx_CS_told_27_2 : mblkB b_CS_told [(27, .astore_n 3, vi 0), (28, .iload_n 2, vi 0)] = true := by decide +kernel
theorem e_wx_CS_told_29 : decode b_CS_told 29 = .ok (.tableswitch 104 0 5 #[39, 44, 49, 62, 67, 81], 39) := by decide +kernel
theorem f_wx_CS_told_68_1 : mblkB b_CS_told [(68, .aload_n 3, vi 0)] = true := by decide +kernel
theorem e_wx_CS_told_69 : decode b_CS_told 69 = .ok (.getfield 97, 3) := by decide +kernel
theorem e_wx_CS_told_72 : decode b_CS_told 72 = .ok (.ireturn, 1) := by decide +kernel
theorem f_wx_CS_told_73_1 : mblkB b_CS_told [(73, .aload_n 3, vi 0)] = true := by decide +kernel
theorem e_wx_CS_told_74 : decode b_CS_told 74 = .ok (.getfield 71, 3) := by decide +kernel
theorem e_wx_CS_told_77 : decode b_CS_told 77 = .ok (.ireturn, 1) := by decide +kernel
theorem f_wx_CS_told_78_1 : mblkB b_CS_told [(78, .aload_n 3, vi 0)] = true := by decide +kernel
theorem e_wx_CS_told_79 : decode b_CS_told 79 = .ok (.getfield 100, 3) := by decide +kernel
theorem e_wx_CS_told_82 : decode b_CS_told 82 = .ok (.ifCond .eq 7, 3) := by decide +kernel
theorem f_wx_CS_told_89_1 : mblkB b_CS_told [(89, .iconst 0, vi 0)] = true := by decide +kernel
theorem e_wx_CS_told_90 : decode b_CS_told 90 = .ok (.ireturn, 1) := by decide +kernel
theorem f_wx_CS_told_85_2 : mblkB b_CS_told [(85, .iconst 1, vi 1), (86, .goto 4, vi 90)] = true := by decide +kernel
theorem f_wx_CS_told_91_1 : mblkB b_CS_told [(91, .aload_n 3, vi 0)] = true := by decide +kernel
theorem e_wx_CS_told_92 : decode b_CS_told 92 = .ok (.getfield 104, 3) := by decide +kernel
theorem e_wx_CS_told_95 : decode b_CS_told 95 = .ok (.ireturn, 1) := by decide +kernel
theorem f_wx_CS_told_96_2 : mblkB b_CS_told [(96, .aload_n 0, vi 0), (97, .iload_n 1, vi 0)] = true := by decide +kernel
theorem e_wx_CS_told_98 : decode b_CS_told 98 = .ok (.invokevirtual 107, 3) := by decide +kernel
theorem e_wx_CS_told_101 : decode b_CS_told 101 = .ok (.ifnonnull 7, 3) := by decide +kernel
theorem f_wx_CS_told_108_1 : mblkB b_CS_told [(108, .iconst 0, vi 0)] = true := by decide +kernel
theorem e_wx_CS_told_109 : decode b_CS_told 109 = .ok (.ireturn, 1) := by decide +kernel
theorem f_wx_CS_told_104_2 : mblkB b_CS_told [(104, .iconst 1, vi 1), (105, .goto 4, vi 109)] = true := by decide +kernel
theorem f_wx_CS_told_110_2 : mblkB b_CS_told [(110, .aload_n 0, vi 0), (111, .iload_n 1, vi 0)] = true := by decide +kernel
theorem e_wx_CS_told_112 : decode b_CS_told 112 = .ok (.invokevirtual 107, 3) := by decide +kernel
theorem f_wx_CS_told_115_2 : mblkB b_CS_told [(115, .astore 4, vi 0), (117, .aload 4, vi 0)] = true := by decide +kernel
theorem e_wx_CS_told_119 : decode b_CS_told 119 = .ok (.ifnonnull 8, 3) := by decide +kernel
theorem f_wx_CS_told_127_1 : mblkB b_CS_told [(127, .aload 4, vi 0)] = true := by decide +kernel
theorem e_wx_CS_told_129 : decode b_CS_told 129 = .ok (.getfield 111, 3) := by decide +kernel
theorem e_wx_CS_told_132 : decode b_CS_told 132 = .ok (.ireturn, 1) := by decide +kernel
theorem f_wx_CS_told_122_2 : mblkB b_CS_told [(122, .bipush (-6), vi (-6)), (124, .goto 8, vi 132)] = true := by decide +kernel
theorem f_wx_CS_told_133_1 : mblkB b_CS_told [(133, .aload_n 3, vi 0)] = true := by decide +kernel
theorem e_wx_CS_told_134 : decode b_CS_told 134 = .ok (.getfield 74, 3) := by decide +kernel
theorem e_wx_CS_told_137 : decode b_CS_told 137 = .ok (.ireturn, 1) := by decide +kernel
set_option maxHeartbeats 4000000 in
set_option maxRecDepth 20000 in
theorem wx_CS_told  : ∀ (l : Launch) (D : va_G) (B : Nat) (H0 : Heap) (G0 : tG) (k0 : Nat) (A : mA) (o : Nat) (a0 : Int) (a1 : Int) (h_o : G0 o = some 8)  (Q : wQ), w_CS_told  k0 G0 A o a0 a1 Q → wMet l D B H0 G0 k0 y_CS_told b_CS_told 5 (some .int) 465 15134 1 [vr 8 o, vi a0, vi a1] A Q := by
  intro l D B H0 G0 k0 A o a0 a1 h_o Q h
  refine w_met (by decide) rfl (fun g q0 C Rm Y E => ?_)
  show HM g D G0 q0 A 0 [(0, vr 8 o), (1, vi a0), (2, vi a1)] []
  unfold w_CS_told at h
  refine h_blk 2 [(0, vr 8 o), (1, vi a0), (2, vi a1)] [vi a0, vr 8 o] C f_wx_CS_told_0_2 rfl ?_
  obtain ⟨q1, e2, h⟩ := h
  refine w_callV C Rm Y wb.rfl' [vi a0] [] (hx_CS_isProgram l D B H0 G0 _ o a0 h_o _ _ e2) cl_CS_94 h_o rfl rfl rfl e_wx_CS_told_2 rfl rfl rfl ⟨by decide, by decide⟩ ?_
  rintro _ _ ⟨rfl, rfl⟩
  show HM g D G0 q0 q1.2 5 [(0, vr 8 o), (1, vi a0), (2, vi a1)] [vi q1.1]
  obtain ⟨c3, h⟩ := wgd h
  refine h_if_eq (tgt := 18) C e_wx_CS_told_5 (by decide) c3 (fun c4 => ?_) (fun c4 => ?_)
  · have h := wfp c4 h
    refine h_blk 20 [(0, vr 8 o), (1, vi a0), (2, vi a1)] [vi (-2)] C f_wx_CS_told_18_1 rfl ?_
    exact w_iret C Rm E (fun _ _ z => z) wb.rfl' e_wx_CS_told_20 h
  · have h := wfn c4 h
    refine h_blk 9 [(0, vr 8 o), (1, vi a0), (2, vi a1)] [vi a1] C f_wx_CS_told_8_1 rfl ?_
    obtain ⟨c5, h⟩ := wgd h
    refine h_if_lt (tgt := 18) C e_wx_CS_told_9 (by decide) c5 (fun c6 => ?_) (fun c6 => ?_)
    · have h := wfp c6 h
      refine h_blk 20 [(0, vr 8 o), (1, vi a0), (2, vi a1)] [vi (-2)] C f_wx_CS_told_18_1 rfl ?_
      exact w_iret C Rm E (fun _ _ z => z) wb.rfl' e_wx_CS_told_20 h
    · have h := wfn c6 h
      refine h_blk 15 [(0, vr 8 o), (1, vi a0), (2, vi a1)] [vi 6, vi a1] C f_wx_CS_told_12_2 rfl ?_
      refine h_icmp_le (tgt := 21) C e_wx_CS_told_15 (by decide) c5 (by decide) (fun c7 => ?_) (fun c7 => ?_)
      · have h := wfp c7 h
        refine h_blk 22 [(0, vr 8 o), (1, vi a0), (2, vi a1)] [vr 8 o] C f_wx_CS_told_21_1 rfl ?_
        refine h_getr4 C e_wx_CS_told_22 fg_CS_15 h_o rfl rfl rfl rfl (fun g8 => ?_)
        refine h_blk 26 [(0, vr 8 o), (1, vi a0), (2, vi a1)] [vi a0, vr 21 ((q1.2 8 o 2).toNat)] C f_wx_CS_told_25_1 rfl ?_
        obtain ⟨c9, h⟩ := wgd h
        obtain ⟨c10, h⟩ := wgd h
        refine h_aald5 C e_wx_CS_told_26 rfl rfl g8 rfl rfl rfl rfl (by decide) c9.1 c9.2 c10 (fun g11 => ?_)
        refine h_blk 29 [(3, vr 2 ((q1.2 21 ((q1.2 8 o 2).toNat) a0.toNat).toNat)), (0, vr 8 o), (1, vi a0), (2, vi a1)] [vi a1] C f_wx_CS_told_27_2 rfl ?_
        by_cases c12 : a1 = 0
        · have h := wfp c12 h
          refine h_tabIn (tgt := 68) C e_wx_CS_told_29 c5 (by omega) (by omega) (by rw [c12]; rfl) (by decide) ?_
          refine h_blk 69 [(3, vr 2 ((q1.2 21 ((q1.2 8 o 2).toNat) a0.toNat).toNat)), (0, vr 8 o), (1, vi a0), (2, vi a1)] [vr 2 ((q1.2 21 ((q1.2 8 o 2).toNat) a0.toNat).toNat)] C f_wx_CS_told_68_1 rfl ?_
          refine h_geti C e_wx_CS_told_69 fg_CS_97 g11 rfl rfl rfl (q1.2 2 ((q1.2 21 ((q1.2 8 o 2).toNat) a0.toNat).toNat) 1) rfl ?_
          exact w_iret C Rm E (fun _ _ z => z) wb.rfl' e_wx_CS_told_72 h
        have h := wfn c12 h
        by_cases c13 : a1 = 1
        · have h := wfp c13 h
          refine h_tabIn (tgt := 73) C e_wx_CS_told_29 c5 (by omega) (by omega) (by rw [c13]; rfl) (by decide) ?_
          refine h_blk 74 [(3, vr 2 ((q1.2 21 ((q1.2 8 o 2).toNat) a0.toNat).toNat)), (0, vr 8 o), (1, vi a0), (2, vi a1)] [vr 2 ((q1.2 21 ((q1.2 8 o 2).toNat) a0.toNat).toNat)] C f_wx_CS_told_73_1 rfl ?_
          refine h_geti C e_wx_CS_told_74 fg_CS_71 g11 rfl rfl rfl (q1.2 2 ((q1.2 21 ((q1.2 8 o 2).toNat) a0.toNat).toNat) 8) rfl ?_
          exact w_iret C Rm E (fun _ _ z => z) wb.rfl' e_wx_CS_told_77 h
        have h := wfn c13 h
        by_cases c14 : a1 = 2
        · have h := wfp c14 h
          refine h_tabIn (tgt := 78) C e_wx_CS_told_29 c5 (by omega) (by omega) (by rw [c14]; rfl) (by decide) ?_
          refine h_blk 79 [(3, vr 2 ((q1.2 21 ((q1.2 8 o 2).toNat) a0.toNat).toNat)), (0, vr 8 o), (1, vi a0), (2, vi a1)] [vr 2 ((q1.2 21 ((q1.2 8 o 2).toNat) a0.toNat).toNat)] C f_wx_CS_told_78_1 rfl ?_
          refine h_geti C e_wx_CS_told_79 fg_CS_100 g11 rfl rfl rfl (q1.2 2 ((q1.2 21 ((q1.2 8 o 2).toNat) a0.toNat).toNat) 11) rfl ?_
          obtain ⟨c15, h⟩ := wgd h
          refine h_if_eq (tgt := 89) C e_wx_CS_told_82 (by decide) c15 (fun c16 => ?_) (fun c16 => ?_)
          · have h := wfp c16 h
            refine h_blk 90 [(3, vr 2 ((q1.2 21 ((q1.2 8 o 2).toNat) a0.toNat).toNat)), (0, vr 8 o), (1, vi a0), (2, vi a1)] [vi 0] C f_wx_CS_told_89_1 rfl ?_
            exact w_iret C Rm E (fun _ _ z => z) wb.rfl' e_wx_CS_told_90 h
          · have h := wfn c16 h
            refine h_blk 90 [(3, vr 2 ((q1.2 21 ((q1.2 8 o 2).toNat) a0.toNat).toNat)), (0, vr 8 o), (1, vi a0), (2, vi a1)] [vi 1] C f_wx_CS_told_85_2 rfl ?_
            exact w_iret C Rm E (fun _ _ z => z) wb.rfl' e_wx_CS_told_90 h
        have h := wfn c14 h
        by_cases c17 : a1 = 3
        · have h := wfp c17 h
          refine h_tabIn (tgt := 91) C e_wx_CS_told_29 c5 (by omega) (by omega) (by rw [c17]; rfl) (by decide) ?_
          refine h_blk 92 [(3, vr 2 ((q1.2 21 ((q1.2 8 o 2).toNat) a0.toNat).toNat)), (0, vr 8 o), (1, vi a0), (2, vi a1)] [vr 2 ((q1.2 21 ((q1.2 8 o 2).toNat) a0.toNat).toNat)] C f_wx_CS_told_91_1 rfl ?_
          refine h_geti C e_wx_CS_told_92 fg_CS_104 g11 rfl rfl rfl (q1.2 2 ((q1.2 21 ((q1.2 8 o 2).toNat) a0.toNat).toNat) 10) rfl ?_
          exact w_iret C Rm E (fun _ _ z => z) wb.rfl' e_wx_CS_told_95 h
        have h := wfn c17 h
        by_cases c18 : a1 = 4
        · have h := wfp c18 h
          refine h_tabIn (tgt := 96) C e_wx_CS_told_29 c5 (by omega) (by omega) (by rw [c18]; rfl) (by decide) ?_
          refine h_blk 98 [(3, vr 2 ((q1.2 21 ((q1.2 8 o 2).toNat) a0.toNat).toNat)), (0, vr 8 o), (1, vi a0), (2, vi a1)] [vi a0, vr 8 o] C f_wx_CS_told_96_2 rfl ?_
          refine w_wV C Rm Y wb.rfl' [vi a0] [] (wx_CS_endOf l D B H0 G0 k0 _ o a0 h_o _ h) cl_CS_107 h_o rfl rfl rfl e_wx_CS_told_98 rfl rfl rfl ⟨by decide, by decide⟩ (fun r19 A20 G21 k22 q23 p24 y25 b26 => ?_)
          have h := p24
          refine wk3 (fun c27 g28 => ?_) (fun c27 => ?_)
          · have h := wfp c27 h
            refine h_ifnonnull (tgt := 108) C e_wx_CS_told_101 (by decide) ?_
            refine h_blk 109 [(3, vr 2 ((q1.2 21 ((q1.2 8 o 2).toNat) a0.toNat).toNat)), (0, vr 8 o), (1, vi a0), (2, vi a1)] [vi 0] C f_wx_CS_told_108_1 rfl ?_
            exact w_iret C Rm E (fun a τ z => y25 a τ ((fun _ _ z => z) a τ z)) b26 e_wx_CS_told_109 h
          · have h := wfn (by omega)  h
            refine wn_ifnonnull C e_wx_CS_told_101 ?_
            refine h_blk 109 [(3, vr 2 ((q1.2 21 ((q1.2 8 o 2).toNat) a0.toNat).toNat)), (0, vr 8 o), (1, vi a0), (2, vi a1)] [vi 1] C f_wx_CS_told_104_2 rfl ?_
            exact w_iret C Rm E (fun a τ z => y25 a τ ((fun _ _ z => z) a τ z)) b26 e_wx_CS_told_109 h
        have h := wfn c18 h
        by_cases c29 : a1 = 5
        · have h := wfp c29 h
          refine h_tabIn (tgt := 110) C e_wx_CS_told_29 c5 (by omega) (by omega) (by rw [c29]; rfl) (by decide) ?_
          refine h_blk 112 [(3, vr 2 ((q1.2 21 ((q1.2 8 o 2).toNat) a0.toNat).toNat)), (0, vr 8 o), (1, vi a0), (2, vi a1)] [vi a0, vr 8 o] C f_wx_CS_told_110_2 rfl ?_
          refine w_wV C Rm Y wb.rfl' [vi a0] [] (wx_CS_endOf l D B H0 G0 k0 _ o a0 h_o _ h) cl_CS_107 h_o rfl rfl rfl e_wx_CS_told_112 rfl rfl rfl ⟨by decide, by decide⟩ (fun r30 A31 G32 k33 q34 p35 y36 b37 => ?_)
          have h := p35
          refine wk3 (fun c38 g39 => ?_) (fun c38 => ?_)
          · have h := wfp c38 h
            refine h_blk 119 [(4, vr 0 r30.toNat), (3, vr 2 ((q1.2 21 ((q1.2 8 o 2).toNat) a0.toNat).toNat)), (0, vr 8 o), (1, vi a0), (2, vi a1)] [vr 0 r30.toNat] C f_wx_CS_told_115_2 rfl ?_
            refine h_ifnonnull (tgt := 127) C e_wx_CS_told_119 (by decide) ?_
            refine h_blk 129 [(4, vr 0 r30.toNat), (3, vr 2 ((q1.2 21 ((q1.2 8 o 2).toNat) a0.toNat).toNat)), (0, vr 8 o), (1, vi a0), (2, vi a1)] [vr 0 r30.toNat] C f_wx_CS_told_127_1 rfl ?_
            refine h_geti C e_wx_CS_told_129 fg_CS_111 g39 rfl rfl rfl (A31 0 r30.toNat 2) rfl ?_
            exact w_iret C Rm E (fun a τ z => y36 a τ ((fun _ _ z => z) a τ z)) b37 e_wx_CS_told_132 h
          · have h := wfn (by omega)  h
            refine h_blk 119 [(4, vn), (3, vr 2 ((q1.2 21 ((q1.2 8 o 2).toNat) a0.toNat).toNat)), (0, vr 8 o), (1, vi a0), (2, vi a1)] [vn] C f_wx_CS_told_115_2 rfl ?_
            refine wn_ifnonnull C e_wx_CS_told_119 ?_
            refine h_blk 132 [(4, vn), (3, vr 2 ((q1.2 21 ((q1.2 8 o 2).toNat) a0.toNat).toNat)), (0, vr 8 o), (1, vi a0), (2, vi a1)] [vi (-6)] C f_wx_CS_told_122_2 rfl ?_
            exact w_iret C Rm E (fun a τ z => y36 a τ ((fun _ _ z => z) a τ z)) b37 e_wx_CS_told_132 h
        have h := wfn c29 h
        refine h_tabOut (tgt := 133) C e_wx_CS_told_29 c5 (by omega) (by decide) ?_
        refine h_blk 134 [(3, vr 2 ((q1.2 21 ((q1.2 8 o 2).toNat) a0.toNat).toNat)), (0, vr 8 o), (1, vi a0), (2, vi a1)] [vr 2 ((q1.2 21 ((q1.2 8 o 2).toNat) a0.toNat).toNat)] C f_wx_CS_told_133_1 rfl ?_
        refine h_geti C e_wx_CS_told_134 fg_CS_74 g11 rfl rfl rfl (q1.2 2 ((q1.2 21 ((q1.2 8 o 2).toNat) a0.toNat).toNat) 9) rfl ?_
        exact w_iret C Rm E (fun _ _ z => z) wb.rfl' e_wx_CS_told_137 h
      · have h := wfn c7 h
        refine h_blk 20 [(0, vr 8 o), (1, vi a0), (2, vi a1)] [vi (-2)] C f_wx_CS_told_18_1 rfl ?_
        exact w_iret C Rm E (fun _ _ z => z) wb.rfl' e_wx_CS_told_20 h

def w_CS_left (k0 : Nat) (G0 : tG) (A : mA) (o : Nat) (a0 : Int) (a1 : Int) (Q : wQ) : Prop := (∃ q1, f_CS_isProgram A o a0 = some q1 ∧ (if g32 q1.1 then (if q1.1 = 0 then (Q (-4611686018427387904) q1.2 G0 k0) else (∃ q5, f_CS_isPart q1.2 a1 = some q5 ∧ (if g32 q5.1 then (if q5.1 = 0 then (Q (-4611686018427387904) q5.2 G0 k0) else (w_CS_endOf k0 G0 q5.2 o a0 (fun r9 A10 G11 k12 => (if 0 ≤ r9 then (∃ q19, f_Crowd_weight A10 r9.toNat = some q19 ∧ (∃ q21, f_CS_partOf q19.2 q19.1 1125899906842624 a1 = some q21 ∧ (Q q21.1 q21.2 G11 k12))) else (Q (-4611686018427387904) A10 G11 k12))))) else False))) else False))
theorem f_wx_CS_left_0_2 : mblkB b_CS_left [(0, .aload_n 0, vi 0), (1, .iload_n 1, vi 0)] = true := by decide +kernel
theorem e_wx_CS_left_2 : decode b_CS_left 2 = .ok (.invokevirtual 94, 3) := by decide +kernel
theorem e_wx_CS_left_5 : decode b_CS_left 5 = .ok (.ifCond .eq 10, 3) := by decide +kernel
theorem e_wx_CS_left_15 : decode b_CS_left 15 = .ok (.ldc2_w 143, 3) := by decide +kernel
theorem e_wx_CS_left_18 : decode b_CS_left 18 = .ok (.lreturn, 1) := by decide +kernel
theorem f_wx_CS_left_8_1 : mblkB b_CS_left [(8, .iload_n 2, vi 0)] = true := by decide +kernel
theorem e_wx_CS_left_9 : decode b_CS_left 9 = .ok (.invokestatic 140, 3) := by decide +kernel
theorem e_wx_CS_left_12 : decode b_CS_left 12 = .ok (.ifCond .ne 7, 3) := by decide +kernel
theorem f_wx_CS_left_19_2 : mblkB b_CS_left [(19, .aload_n 0, vi 0), (20, .iload_n 1, vi 0)] = true := by decide +kernel
theorem e_wx_CS_left_21 : decode b_CS_left 21 = .ok (.invokevirtual 107, 3) := by decide +kernel
theorem f_wx_CS_left_24_2 : mblkB b_CS_left [(24, .astore_n 3, vi 0), (25, .aload_n 3, vi 0)] = true := by decide +kernel
theorem e_wx_CS_left_26 : decode b_CS_left 26 = .ok (.ifnonnull 9, 3) := by decide +kernel
theorem f_wx_CS_left_35_1 : mblkB b_CS_left [(35, .aload_n 3, vi 0)] = true := by decide +kernel
theorem e_wx_CS_left_36 : decode b_CS_left 36 = .ok (.invokevirtual 145, 3) := by decide +kernel
theorem e_wx_CS_left_39 : decode b_CS_left 39 = .ok (.ldc2_w 149, 3) := by decide +kernel
theorem f_wx_CS_left_42_1 : mblkB b_CS_left [(42, .iload_n 2, vi 0)] = true := by decide +kernel
theorem e_wx_CS_left_43 : decode b_CS_left 43 = .ok (.invokestatic 151, 3) := by decide +kernel
theorem e_wx_CS_left_46 : decode b_CS_left 46 = .ok (.lreturn, 1) := by decide +kernel
theorem e_wx_CS_left_29 : decode b_CS_left 29 = .ok (.ldc2_w 143, 3) := by decide +kernel
theorem f_wx_CS_left_32_1 : mblkB b_CS_left [(32, .goto 14, vi 46)] = true := by decide +kernel
set_option maxHeartbeats 4000000 in
set_option maxRecDepth 20000 in
theorem wx_CS_left  : ∀ (l : Launch) (D : va_G) (B : Nat) (H0 : Heap) (G0 : tG) (k0 : Nat) (A : mA) (o : Nat) (a0 : Int) (a1 : Int) (h_o : G0 o = some 8)  (Q : wQ), w_CS_left  k0 G0 A o a0 a1 Q → wMet l D B H0 G0 k0 y_CS_left b_CS_left 4 (some .long) 465 15134 2 [vr 8 o, vi a0, vi a1] A Q := by
  intro l D B H0 G0 k0 A o a0 a1 h_o Q h
  refine w_met (by decide) rfl (fun g q0 C Rm Y E => ?_)
  show HM g D G0 q0 A 0 [(0, vr 8 o), (1, vi a0), (2, vi a1)] []
  unfold w_CS_left at h
  refine h_blk 2 [(0, vr 8 o), (1, vi a0), (2, vi a1)] [vi a0, vr 8 o] C f_wx_CS_left_0_2 rfl ?_
  obtain ⟨q1, e2, h⟩ := h
  refine w_callV C Rm Y wb.rfl' [vi a0] [] (hx_CS_isProgram l D B H0 G0 _ o a0 h_o _ _ e2) cl_CS_94 h_o rfl rfl rfl e_wx_CS_left_2 rfl rfl rfl ⟨by decide, by decide⟩ ?_
  rintro _ _ ⟨rfl, rfl⟩
  show HM g D G0 q0 q1.2 5 [(0, vr 8 o), (1, vi a0), (2, vi a1)] [vi q1.1]
  obtain ⟨c3, h⟩ := wgd h
  refine h_if_eq (tgt := 15) C e_wx_CS_left_5 (by decide) c3 (fun c4 => ?_) (fun c4 => ?_)
  · have h := wfp c4 h
    refine h_ldc2 C (-4611686018427387904) e_wx_CS_left_15 ld_CS_143 (by decide) ?_
    exact w_lret C Rm E (fun _ _ z => z) wb.rfl' e_wx_CS_left_18 h
  · have h := wfn c4 h
    refine h_blk 9 [(0, vr 8 o), (1, vi a0), (2, vi a1)] [vi a1] C f_wx_CS_left_8_1 rfl ?_
    obtain ⟨q5, e6, h⟩ := h
    refine w_callS C Rm Y wb.rfl' [vi a1] [] (hx_CS_isPart l D B H0 G0 _ a1 _ _ e6) cl_CS_140 e_wx_CS_left_9 rfl rfl rfl ⟨by decide, by decide⟩ ?_
    rintro _ _ ⟨rfl, rfl⟩
    show HM g D G0 q0 q5.2 12 [(0, vr 8 o), (1, vi a0), (2, vi a1)] [vi q5.1]
    obtain ⟨c7, h⟩ := wgd h
    refine h_if_ne (tgt := 19) C e_wx_CS_left_12 (by decide) c7 (fun c8 => ?_) (fun c8 => ?_)
    · have h := wfn c8 h
      refine h_blk 21 [(0, vr 8 o), (1, vi a0), (2, vi a1)] [vi a0, vr 8 o] C f_wx_CS_left_19_2 rfl ?_
      refine w_wV C Rm Y wb.rfl' [vi a0] [] (wx_CS_endOf l D B H0 G0 k0 _ o a0 h_o _ h) cl_CS_107 h_o rfl rfl rfl e_wx_CS_left_21 rfl rfl rfl ⟨by decide, by decide⟩ (fun r9 A10 G11 k12 q13 p14 y15 b16 => ?_)
      have h := p14
      refine wk3 (fun c17 g18 => ?_) (fun c17 => ?_)
      · have h := wfp c17 h
        refine h_blk 26 [(3, vr 0 r9.toNat), (0, vr 8 o), (1, vi a0), (2, vi a1)] [vr 0 r9.toNat] C f_wx_CS_left_24_2 rfl ?_
        refine h_ifnonnull (tgt := 35) C e_wx_CS_left_26 (by decide) ?_
        refine h_blk 36 [(3, vr 0 r9.toNat), (0, vr 8 o), (1, vi a0), (2, vi a1)] [vr 0 r9.toNat] C f_wx_CS_left_35_1 rfl ?_
        obtain ⟨q19, e20, h⟩ := h
        refine w_callV C Rm Y b16 [] [] (hx_Crowd_weight l D B H0 G11 _ r9.toNat g18 _ _ e20) cl_CS_145 g18 rfl rfl rfl e_wx_CS_left_36 rfl rfl rfl ⟨by decide, by decide⟩ ?_
        rintro _ _ ⟨rfl, rfl⟩
        show HM g D G11 q13 q19.2 39 [(3, vr 0 r9.toNat), (0, vr 8 o), (1, vi a0), (2, vi a1)] [vl q19.1]
        refine h_ldc2 C 1125899906842624 e_wx_CS_left_39 ld_CS_149 (by decide) ?_
        refine h_blk 43 [(3, vr 0 r9.toNat), (0, vr 8 o), (1, vi a0), (2, vi a1)] [vi a1, vl 1125899906842624, vl q19.1] C f_wx_CS_left_42_1 rfl ?_
        obtain ⟨q21, e22, h⟩ := h
        refine w_callS C Rm Y b16 [vl q19.1, vl 1125899906842624, vi a1] [] (hx_CS_partOf l D B H0 G11 _ q19.1 1125899906842624 a1 _ _ e22) cl_CS_151 e_wx_CS_left_43 rfl rfl rfl ⟨by decide, by decide⟩ ?_
        rintro _ _ ⟨rfl, rfl⟩
        show HM g D G11 q13 q21.2 46 [(3, vr 0 r9.toNat), (0, vr 8 o), (1, vi a0), (2, vi a1)] [vl q21.1]
        exact w_lret C Rm E (fun a τ z => y15 a τ ((fun _ _ z => z) a τ z)) b16 e_wx_CS_left_46 h
      · have h := wfn (by omega)  h
        refine h_blk 26 [(3, vn), (0, vr 8 o), (1, vi a0), (2, vi a1)] [vn] C f_wx_CS_left_24_2 rfl ?_
        refine wn_ifnonnull C e_wx_CS_left_26 ?_
        refine h_ldc2 C (-4611686018427387904) e_wx_CS_left_29 ld_CS_143 (by decide) ?_
        refine h_blk 46 [(3, vn), (0, vr 8 o), (1, vi a0), (2, vi a1)] [vl (-4611686018427387904)] C f_wx_CS_left_32_1 rfl ?_
        exact w_lret C Rm E (fun a τ z => y15 a τ ((fun _ _ z => z) a τ z)) b16 e_wx_CS_left_46 h
    · have h := wfp c8 h
      refine h_ldc2 C (-4611686018427387904) e_wx_CS_left_15 ld_CS_143 (by decide) ?_
      exact w_lret C Rm E (fun _ _ z => z) wb.rfl' e_wx_CS_left_18 h

def w_CS_odds (k0 : Nat) (G0 : tG) (A : mA) (o : Nat) (a0 : Int) (a1 : Int) (a2 : Int) (a3 : Int) (Q : wQ) : Prop := (∃ q1, f_CS_isProgram A o a0 = some q1 ∧ (if g32 q1.1 then (if q1.1 = 0 then (Q (-4611686018427387904) q1.2 G0 k0) else (∃ q5, f_CS_isName q1.2 a1 = some q5 ∧ (if g32 q5.1 then (if q5.1 = 0 then (Q (-4611686018427387904) q5.2 G0 k0) else (∃ q9, f_CS_isValue q5.2 a2 = some q9 ∧ (if g32 q9.1 then (if q9.1 = 0 then (Q (-4611686018427387904) q9.2 G0 k0) else (∃ q13, f_CS_isPart q9.2 a3 = some q13 ∧ (if g32 q13.1 then (if q13.1 = 0 then (Q (-4611686018427387904) q13.2 G0 k0) else (w_CS_endOf k0 G0 q13.2 o a0 (fun r17 A18 G19 k20 => (if 0 ≤ r17 then (if g32 (A18 0 r17.toNat 2) then (if (A18 0 r17.toNat 2) = 0 then (Q (-4611686018427387904) A18 G19 k20) else (∃ q30, f_Crowd_spread A18 r17.toNat a1 ((A18 8 o 11).toNat) = some q30 ∧ (if (0 ≤ a2 ∧ a2 < ((10 : Nat) : Int)) then (∃ q34, f_Crowd_weight q30.2 r17.toNat = some q34 ∧ (∃ q36, f_CS_partOf q34.2 (q30.2 23 ((q30.2 8 o 11).toNat) a2.toNat) q34.1 a3 = some q36 ∧ (Q q36.1 q36.2 G19 k20))) else False))) else False) else (Q (-4611686018427387904) A18 G19 k20))))) else False))) else False))) else False))) else False))
theorem f_wx_CS_odds_0_2 : mblkB b_CS_odds [(0, .aload_n 0, vi 0), (1, .iload_n 1, vi 0)] = true := by decide +kernel
theorem e_wx_CS_odds_2 : decode b_CS_odds 2 = .ok (.invokevirtual 94, 3) := by decide +kernel
theorem e_wx_CS_odds_5 : decode b_CS_odds 5 = .ok (.ifCond .eq 25, 3) := by decide +kernel
theorem e_wx_CS_odds_30 : decode b_CS_odds 30 = .ok (.ldc2_w 143, 3) := by decide +kernel
theorem e_wx_CS_odds_33 : decode b_CS_odds 33 = .ok (.lreturn, 1) := by decide +kernel
theorem f_wx_CS_odds_8_1 : mblkB b_CS_odds [(8, .iload_n 2, vi 0)] = true := by decide +kernel
theorem e_wx_CS_odds_9 : decode b_CS_odds 9 = .ok (.invokestatic 77, 3) := by decide +kernel
theorem e_wx_CS_odds_12 : decode b_CS_odds 12 = .ok (.ifCond .eq 18, 3) := by decide +kernel
theorem f_wx_CS_odds_15_1 : mblkB b_CS_odds [(15, .iload_n 3, vi 0)] = true := by decide +kernel
theorem e_wx_CS_odds_16 : decode b_CS_odds 16 = .ok (.invokestatic 80, 3) := by decide +kernel
theorem e_wx_CS_odds_19 : decode b_CS_odds 19 = .ok (.ifCond .eq 11, 3) := by decide +kernel
theorem f_wx_CS_odds_22_1 : mblkB b_CS_odds [(22, .iload 4, vi 0)] = true := by decide +kernel
theorem e_wx_CS_odds_24 : decode b_CS_odds 24 = .ok (.invokestatic 140, 3) := by decide +kernel
theorem e_wx_CS_odds_27 : decode b_CS_odds 27 = .ok (.ifCond .ne 7, 3) := by decide +kernel
theorem f_wx_CS_odds_34_2 : mblkB b_CS_odds [(34, .aload_n 0, vi 0), (35, .iload_n 1, vi 0)] = true := by decide +kernel
theorem e_wx_CS_odds_36 : decode b_CS_odds 36 = .ok (.invokevirtual 107, 3) := by decide +kernel
theorem f_wx_CS_odds_39_2 : mblkB b_CS_odds [(39, .astore 5, vi 0), (41, .aload 5, vi 0)] = true := by decide +kernel
theorem e_wx_CS_odds_43 : decode b_CS_odds 43 = .ok (.ifnull 11, 3) := by decide +kernel
theorem f_wx_CS_odds_46_1 : mblkB b_CS_odds [(46, .aload 5, vi 0)] = true := by decide +kernel
theorem e_wx_CS_odds_48 : decode b_CS_odds 48 = .ok (.getfield 111, 3) := by decide +kernel
theorem e_wx_CS_odds_51 : decode b_CS_odds 51 = .ok (.ifCond .ne 7, 3) := by decide +kernel
theorem f_wx_CS_odds_58_3 : mblkB b_CS_odds [(58, .aload 5, vi 0), (60, .iload_n 2, vi 0), (61, .aload_n 0, vi 0)] = true := by decide +kernel
theorem e_wx_CS_odds_62 : decode b_CS_odds 62 = .ok (.getfield 39, 3) := by decide +kernel
theorem e_wx_CS_odds_65 : decode b_CS_odds 65 = .ok (.invokevirtual 155, 3) := by decide +kernel
theorem f_wx_CS_odds_68_1 : mblkB b_CS_odds [(68, .aload_n 0, vi 0)] = true := by decide +kernel
theorem e_wx_CS_odds_69 : decode b_CS_odds 69 = .ok (.getfield 39, 3) := by decide +kernel
theorem f_wx_CS_odds_72_1 : mblkB b_CS_odds [(72, .iload_n 3, vi 0)] = true := by decide +kernel
theorem e_wx_CS_odds_73 : decode b_CS_odds 73 = .ok (.laload, 1) := by decide +kernel
theorem f_wx_CS_odds_74_1 : mblkB b_CS_odds [(74, .aload 5, vi 0)] = true := by decide +kernel
theorem e_wx_CS_odds_76 : decode b_CS_odds 76 = .ok (.invokevirtual 145, 3) := by decide +kernel
theorem f_wx_CS_odds_79_1 : mblkB b_CS_odds [(79, .iload 4, vi 0)] = true := by decide +kernel
theorem e_wx_CS_odds_81 : decode b_CS_odds 81 = .ok (.invokestatic 151, 3) := by decide +kernel
theorem e_wx_CS_odds_84 : decode b_CS_odds 84 = .ok (.lreturn, 1) := by decide +kernel
theorem e_wx_CS_odds_54 : decode b_CS_odds 54 = .ok (.ldc2_w 143, 3) := by decide +kernel
theorem e_wx_CS_odds_57 : decode b_CS_odds 57 = .ok (.lreturn, 1) := by decide +kernel
set_option maxHeartbeats 4000000 in
set_option maxRecDepth 20000 in
theorem wx_CS_odds  : ∀ (l : Launch) (D : va_G) (B : Nat) (H0 : Heap) (G0 : tG) (k0 : Nat) (A : mA) (o : Nat) (a0 : Int) (a1 : Int) (a2 : Int) (a3 : Int) (h_o : G0 o = some 8)  (Q : wQ), w_CS_odds  k0 G0 A o a0 a1 a2 a3 Q → wMet l D B H0 G0 k0 y_CS_odds b_CS_odds 6 (some .long) 465 15134 2 [vr 8 o, vi a0, vi a1, vi a2, vi a3] A Q := by
  intro l D B H0 G0 k0 A o a0 a1 a2 a3 h_o Q h
  refine w_met (by decide) rfl (fun g q0 C Rm Y E => ?_)
  show HM g D G0 q0 A 0 [(0, vr 8 o), (1, vi a0), (2, vi a1), (3, vi a2), (4, vi a3)] []
  unfold w_CS_odds at h
  refine h_blk 2 [(0, vr 8 o), (1, vi a0), (2, vi a1), (3, vi a2), (4, vi a3)] [vi a0, vr 8 o] C f_wx_CS_odds_0_2 rfl ?_
  obtain ⟨q1, e2, h⟩ := h
  refine w_callV C Rm Y wb.rfl' [vi a0] [] (hx_CS_isProgram l D B H0 G0 _ o a0 h_o _ _ e2) cl_CS_94 h_o rfl rfl rfl e_wx_CS_odds_2 rfl rfl rfl ⟨by decide, by decide⟩ ?_
  rintro _ _ ⟨rfl, rfl⟩
  show HM g D G0 q0 q1.2 5 [(0, vr 8 o), (1, vi a0), (2, vi a1), (3, vi a2), (4, vi a3)] [vi q1.1]
  obtain ⟨c3, h⟩ := wgd h
  refine h_if_eq (tgt := 30) C e_wx_CS_odds_5 (by decide) c3 (fun c4 => ?_) (fun c4 => ?_)
  · have h := wfp c4 h
    refine h_ldc2 C (-4611686018427387904) e_wx_CS_odds_30 ld_CS_143 (by decide) ?_
    exact w_lret C Rm E (fun _ _ z => z) wb.rfl' e_wx_CS_odds_33 h
  · have h := wfn c4 h
    refine h_blk 9 [(0, vr 8 o), (1, vi a0), (2, vi a1), (3, vi a2), (4, vi a3)] [vi a1] C f_wx_CS_odds_8_1 rfl ?_
    obtain ⟨q5, e6, h⟩ := h
    refine w_callS C Rm Y wb.rfl' [vi a1] [] (hx_CS_isName l D B H0 G0 _ a1 _ _ e6) cl_CS_77 e_wx_CS_odds_9 rfl rfl rfl ⟨by decide, by decide⟩ ?_
    rintro _ _ ⟨rfl, rfl⟩
    show HM g D G0 q0 q5.2 12 [(0, vr 8 o), (1, vi a0), (2, vi a1), (3, vi a2), (4, vi a3)] [vi q5.1]
    obtain ⟨c7, h⟩ := wgd h
    refine h_if_eq (tgt := 30) C e_wx_CS_odds_12 (by decide) c7 (fun c8 => ?_) (fun c8 => ?_)
    · have h := wfp c8 h
      refine h_ldc2 C (-4611686018427387904) e_wx_CS_odds_30 ld_CS_143 (by decide) ?_
      exact w_lret C Rm E (fun _ _ z => z) wb.rfl' e_wx_CS_odds_33 h
    · have h := wfn c8 h
      refine h_blk 16 [(0, vr 8 o), (1, vi a0), (2, vi a1), (3, vi a2), (4, vi a3)] [vi a2] C f_wx_CS_odds_15_1 rfl ?_
      obtain ⟨q9, e10, h⟩ := h
      refine w_callS C Rm Y wb.rfl' [vi a2] [] (hx_CS_isValue l D B H0 G0 _ a2 _ _ e10) cl_CS_80 e_wx_CS_odds_16 rfl rfl rfl ⟨by decide, by decide⟩ ?_
      rintro _ _ ⟨rfl, rfl⟩
      show HM g D G0 q0 q9.2 19 [(0, vr 8 o), (1, vi a0), (2, vi a1), (3, vi a2), (4, vi a3)] [vi q9.1]
      obtain ⟨c11, h⟩ := wgd h
      refine h_if_eq (tgt := 30) C e_wx_CS_odds_19 (by decide) c11 (fun c12 => ?_) (fun c12 => ?_)
      · have h := wfp c12 h
        refine h_ldc2 C (-4611686018427387904) e_wx_CS_odds_30 ld_CS_143 (by decide) ?_
        exact w_lret C Rm E (fun _ _ z => z) wb.rfl' e_wx_CS_odds_33 h
      · have h := wfn c12 h
        refine h_blk 24 [(0, vr 8 o), (1, vi a0), (2, vi a1), (3, vi a2), (4, vi a3)] [vi a3] C f_wx_CS_odds_22_1 rfl ?_
        obtain ⟨q13, e14, h⟩ := h
        refine w_callS C Rm Y wb.rfl' [vi a3] [] (hx_CS_isPart l D B H0 G0 _ a3 _ _ e14) cl_CS_140 e_wx_CS_odds_24 rfl rfl rfl ⟨by decide, by decide⟩ ?_
        rintro _ _ ⟨rfl, rfl⟩
        show HM g D G0 q0 q13.2 27 [(0, vr 8 o), (1, vi a0), (2, vi a1), (3, vi a2), (4, vi a3)] [vi q13.1]
        obtain ⟨c15, h⟩ := wgd h
        refine h_if_ne (tgt := 34) C e_wx_CS_odds_27 (by decide) c15 (fun c16 => ?_) (fun c16 => ?_)
        · have h := wfn c16 h
          refine h_blk 36 [(0, vr 8 o), (1, vi a0), (2, vi a1), (3, vi a2), (4, vi a3)] [vi a0, vr 8 o] C f_wx_CS_odds_34_2 rfl ?_
          refine w_wV C Rm Y wb.rfl' [vi a0] [] (wx_CS_endOf l D B H0 G0 k0 _ o a0 h_o _ h) cl_CS_107 h_o rfl rfl rfl e_wx_CS_odds_36 rfl rfl rfl ⟨by decide, by decide⟩ (fun r17 A18 G19 k20 q21 p22 y23 b24 => ?_)
          have h := p22
          refine wk3 (fun c25 g26 => ?_) (fun c25 => ?_)
          · have h := wfp c25 h
            refine h_blk 43 [(5, vr 0 r17.toNat), (0, vr 8 o), (1, vi a0), (2, vi a1), (3, vi a2), (4, vi a3)] [vr 0 r17.toNat] C f_wx_CS_odds_39_2 rfl ?_
            refine h_ifnull C e_wx_CS_odds_43 ?_
            refine h_blk 48 [(5, vr 0 r17.toNat), (0, vr 8 o), (1, vi a0), (2, vi a1), (3, vi a2), (4, vi a3)] [vr 0 r17.toNat] C f_wx_CS_odds_46_1 rfl ?_
            refine h_geti C e_wx_CS_odds_48 fg_CS_111 g26 rfl rfl rfl (A18 0 r17.toNat 2) rfl ?_
            obtain ⟨c27, h⟩ := wgd h
            refine h_if_ne (tgt := 58) C e_wx_CS_odds_51 (by decide) c27 (fun c28 => ?_) (fun c28 => ?_)
            · have h := wfn c28 h
              refine h_blk 62 [(5, vr 0 r17.toNat), (0, vr 8 o), (1, vi a0), (2, vi a1), (3, vi a2), (4, vi a3)] [vr 8 o, vi a1, vr 0 r17.toNat] C f_wx_CS_odds_58_3 rfl ?_
              refine h_getr4 C e_wx_CS_odds_62 fg_CS_39 (y23 _ _ h_o) rfl rfl rfl rfl (fun g29 => ?_)
              obtain ⟨q30, e31, h⟩ := h
              refine w_callV C Rm Y b24 [vi a1, vr 23 ((A18 8 o 11).toNat)] [] (hx_Crowd_spread l D B H0 G19 _ r17.toNat a1 ((A18 8 o 11).toNat) g26 g29 _ _ e31) cl_CS_155 g26 rfl rfl rfl e_wx_CS_odds_65 rfl rfl rfl ⟨by decide, by decide⟩ ?_
              rintro _ _ ⟨rfl, rfl⟩
              show HM g D G19 q21 q30.2 68 [(5, vr 0 r17.toNat), (0, vr 8 o), (1, vi a0), (2, vi a1), (3, vi a2), (4, vi a3)] []
              refine h_blk 69 [(5, vr 0 r17.toNat), (0, vr 8 o), (1, vi a0), (2, vi a1), (3, vi a2), (4, vi a3)] [vr 8 o] C f_wx_CS_odds_68_1 rfl ?_
              refine h_getr4 C e_wx_CS_odds_69 fg_CS_39 (y23 _ _ h_o) rfl rfl rfl rfl (fun g32 => ?_)
              refine h_blk 73 [(5, vr 0 r17.toNat), (0, vr 8 o), (1, vi a0), (2, vi a1), (3, vi a2), (4, vi a3)] [vi a2, vr 23 ((q30.2 8 o 11).toNat)] C f_wx_CS_odds_72_1 rfl ?_
              obtain ⟨c33, h⟩ := wgd h
              refine h_lald C e_wx_CS_odds_73 g32 rfl rfl (by decide) c33.1 c33.2 (q30.2 23 ((q30.2 8 o 11).toNat) a2.toNat) rfl ?_
              refine h_blk 76 [(5, vr 0 r17.toNat), (0, vr 8 o), (1, vi a0), (2, vi a1), (3, vi a2), (4, vi a3)] [vr 0 r17.toNat, vl (q30.2 23 ((q30.2 8 o 11).toNat) a2.toNat)] C f_wx_CS_odds_74_1 rfl ?_
              obtain ⟨q34, e35, h⟩ := h
              refine w_callV C Rm Y b24 [] [vl (q30.2 23 ((q30.2 8 o 11).toNat) a2.toNat)] (hx_Crowd_weight l D B H0 G19 _ r17.toNat g26 _ _ e35) cl_CS_145 g26 rfl rfl rfl e_wx_CS_odds_76 rfl rfl rfl ⟨by decide, by decide⟩ ?_
              rintro _ _ ⟨rfl, rfl⟩
              show HM g D G19 q21 q34.2 79 [(5, vr 0 r17.toNat), (0, vr 8 o), (1, vi a0), (2, vi a1), (3, vi a2), (4, vi a3)] [vl q34.1, vl (q30.2 23 ((q30.2 8 o 11).toNat) a2.toNat)]
              refine h_blk 81 [(5, vr 0 r17.toNat), (0, vr 8 o), (1, vi a0), (2, vi a1), (3, vi a2), (4, vi a3)] [vi a3, vl q34.1, vl (q30.2 23 ((q30.2 8 o 11).toNat) a2.toNat)] C f_wx_CS_odds_79_1 rfl ?_
              obtain ⟨q36, e37, h⟩ := h
              refine w_callS C Rm Y b24 [vl (q30.2 23 ((q30.2 8 o 11).toNat) a2.toNat), vl q34.1, vi a3] [] (hx_CS_partOf l D B H0 G19 _ (q30.2 23 ((q30.2 8 o 11).toNat) a2.toNat) q34.1 a3 _ _ e37) cl_CS_151 e_wx_CS_odds_81 rfl rfl rfl ⟨by decide, by decide⟩ ?_
              rintro _ _ ⟨rfl, rfl⟩
              show HM g D G19 q21 q36.2 84 [(5, vr 0 r17.toNat), (0, vr 8 o), (1, vi a0), (2, vi a1), (3, vi a2), (4, vi a3)] [vl q36.1]
              exact w_lret C Rm E (fun a τ z => y23 a τ ((fun _ _ z => z) a τ z)) b24 e_wx_CS_odds_84 h
            · have h := wfp c28 h
              refine h_ldc2 C (-4611686018427387904) e_wx_CS_odds_54 ld_CS_143 (by decide) ?_
              exact w_lret C Rm E (fun a τ z => y23 a τ ((fun _ _ z => z) a τ z)) b24 e_wx_CS_odds_57 h
          · have h := wfn (by omega)  h
            refine h_blk 43 [(5, vn), (0, vr 8 o), (1, vi a0), (2, vi a1), (3, vi a2), (4, vi a3)] [vn] C f_wx_CS_odds_39_2 rfl ?_
            refine wn_ifnull (tgt := 54) C e_wx_CS_odds_43 (by decide) ?_
            refine h_ldc2 C (-4611686018427387904) e_wx_CS_odds_54 ld_CS_143 (by decide) ?_
            exact w_lret C Rm E (fun a τ z => y23 a τ ((fun _ _ z => z) a τ z)) b24 e_wx_CS_odds_57 h
        · have h := wfp c16 h
          refine h_ldc2 C (-4611686018427387904) e_wx_CS_odds_30 ld_CS_143 (by decide) ?_
          exact w_lret C Rm E (fun _ _ z => z) wb.rfl' e_wx_CS_odds_33 h

def w_CS_state (k0 : Nat) (G0 : tG) (A : mA) (o : Nat) (a0 : Int) (a1 : Int) (a2 : Int) (Q : wQ) : Prop := (∃ q1, f_CS_isProgram A o a0 = some q1 ∧ (if g32 q1.1 then (if q1.1 = 0 then (Q (-4611686018427387904) q1.2 G0 k0) else (if g32 a1 then (if a1 < 0 then (Q (-4611686018427387904) q1.2 G0 k0) else (if 1000000 ≤ a1 then (Q (-4611686018427387904) q1.2 G0 k0) else (∃ q8, f_CS_isPart q1.2 a2 = some q8 ∧ (if g32 q8.1 then (if q8.1 = 0 then (Q (-4611686018427387904) q8.2 G0 k0) else (w_CS_endOf k0 G0 q8.2 o a0 (fun r12 A13 G14 k15 => (if 0 ≤ r12 then (if g32 (A13 0 r12.toNat 2) then (if (A13 0 r12.toNat 2) = 0 then (Q (-4611686018427387904) A13 G14 k15) else (∃ q24, f_CS_packed A13 a1 = some q24 ∧ (∃ q26, f_Crowd_weightOf q24.2 r12.toNat q24.1 = some q26 ∧ (∃ q28, f_Crowd_weight q26.2 r12.toNat = some q28 ∧ (∃ q30, f_CS_partOf q28.2 q26.1 q28.1 a2 = some q30 ∧ (Q q30.1 q30.2 G14 k15)))))) else False) else (Q (-4611686018427387904) A13 G14 k15))))) else False)))) else False)) else False))
theorem f_wx_CS_state_0_2 : mblkB b_CS_state [(0, .aload_n 0, vi 0), (1, .iload_n 1, vi 0)] = true := by decide +kernel
theorem e_wx_CS_state_2 : decode b_CS_state 2 = .ok (.invokevirtual 94, 3) := by decide +kernel
theorem e_wx_CS_state_5 : decode b_CS_state 5 = .ok (.ifCond .eq 20, 3) := by decide +kernel
theorem e_wx_CS_state_25 : decode b_CS_state 25 = .ok (.ldc2_w 143, 3) := by decide +kernel
theorem e_wx_CS_state_28 : decode b_CS_state 28 = .ok (.lreturn, 1) := by decide +kernel
theorem f_wx_CS_state_8_1 : mblkB b_CS_state [(8, .iload_n 2, vi 0)] = true := by decide +kernel
theorem e_wx_CS_state_9 : decode b_CS_state 9 = .ok (.ifCond .lt 16, 3) := by decide +kernel
theorem f_wx_CS_state_12_1 : mblkB b_CS_state [(12, .iload_n 2, vi 0)] = true := by decide +kernel
theorem e_wx_CS_state_13 : decode b_CS_state 13 = .ok (.ldc 159, 2) := by decide +kernel
theorem e_wx_CS_state_15 : decode b_CS_state 15 = .ok (.if_icmp .ge 10, 3) := by decide +kernel
theorem f_wx_CS_state_18_1 : mblkB b_CS_state [(18, .iload_n 3, vi 0)] = true := by decide +kernel
theorem e_wx_CS_state_19 : decode b_CS_state 19 = .ok (.invokestatic 140, 3) := by decide +kernel
theorem e_wx_CS_state_22 : decode b_CS_state 22 = .ok (.ifCond .ne 7, 3) := by decide +kernel
theorem f_wx_CS_state_29_2 : mblkB b_CS_state [(29, .aload_n 0, vi 0), (30, .iload_n 1, vi 0)] = true := by decide +kernel
theorem e_wx_CS_state_31 : decode b_CS_state 31 = .ok (.invokevirtual 107, 3) := by decide +kernel
theorem f_wx_CS_state_34_2 : mblkB b_CS_state [(34, .astore 4, vi 0), (36, .aload 4, vi 0)] = true := by decide +kernel
theorem e_wx_CS_state_38 : decode b_CS_state 38 = .ok (.ifnull 11, 3) := by decide +kernel
theorem f_wx_CS_state_41_1 : mblkB b_CS_state [(41, .aload 4, vi 0)] = true := by decide +kernel
theorem e_wx_CS_state_43 : decode b_CS_state 43 = .ok (.getfield 111, 3) := by decide +kernel
theorem e_wx_CS_state_46 : decode b_CS_state 46 = .ok (.ifCond .ne 7, 3) := by decide +kernel
theorem f_wx_CS_state_53_2 : mblkB b_CS_state [(53, .aload 4, vi 0), (55, .iload_n 2, vi 0)] = true := by decide +kernel
theorem e_wx_CS_state_56 : decode b_CS_state 56 = .ok (.invokestatic 160, 3) := by decide +kernel
theorem e_wx_CS_state_59 : decode b_CS_state 59 = .ok (.invokevirtual 164, 3) := by decide +kernel
theorem f_wx_CS_state_62_1 : mblkB b_CS_state [(62, .aload 4, vi 0)] = true := by decide +kernel
theorem e_wx_CS_state_64 : decode b_CS_state 64 = .ok (.invokevirtual 145, 3) := by decide +kernel
theorem f_wx_CS_state_67_1 : mblkB b_CS_state [(67, .iload_n 3, vi 0)] = true := by decide +kernel
theorem e_wx_CS_state_68 : decode b_CS_state 68 = .ok (.invokestatic 151, 3) := by decide +kernel
theorem e_wx_CS_state_71 : decode b_CS_state 71 = .ok (.lreturn, 1) := by decide +kernel
theorem e_wx_CS_state_49 : decode b_CS_state 49 = .ok (.ldc2_w 143, 3) := by decide +kernel
theorem e_wx_CS_state_52 : decode b_CS_state 52 = .ok (.lreturn, 1) := by decide +kernel
set_option maxHeartbeats 4000000 in
set_option maxRecDepth 20000 in
theorem wx_CS_state  : ∀ (l : Launch) (D : va_G) (B : Nat) (H0 : Heap) (G0 : tG) (k0 : Nat) (A : mA) (o : Nat) (a0 : Int) (a1 : Int) (a2 : Int) (h_o : G0 o = some 8)  (Q : wQ), w_CS_state  k0 G0 A o a0 a1 a2 Q → wMet l D B H0 G0 k0 y_CS_state b_CS_state 5 (some .long) 465 15134 2 [vr 8 o, vi a0, vi a1, vi a2] A Q := by
  intro l D B H0 G0 k0 A o a0 a1 a2 h_o Q h
  refine w_met (by decide) rfl (fun g q0 C Rm Y E => ?_)
  show HM g D G0 q0 A 0 [(0, vr 8 o), (1, vi a0), (2, vi a1), (3, vi a2)] []
  unfold w_CS_state at h
  refine h_blk 2 [(0, vr 8 o), (1, vi a0), (2, vi a1), (3, vi a2)] [vi a0, vr 8 o] C f_wx_CS_state_0_2 rfl ?_
  obtain ⟨q1, e2, h⟩ := h
  refine w_callV C Rm Y wb.rfl' [vi a0] [] (hx_CS_isProgram l D B H0 G0 _ o a0 h_o _ _ e2) cl_CS_94 h_o rfl rfl rfl e_wx_CS_state_2 rfl rfl rfl ⟨by decide, by decide⟩ ?_
  rintro _ _ ⟨rfl, rfl⟩
  show HM g D G0 q0 q1.2 5 [(0, vr 8 o), (1, vi a0), (2, vi a1), (3, vi a2)] [vi q1.1]
  obtain ⟨c3, h⟩ := wgd h
  refine h_if_eq (tgt := 25) C e_wx_CS_state_5 (by decide) c3 (fun c4 => ?_) (fun c4 => ?_)
  · have h := wfp c4 h
    refine h_ldc2 C (-4611686018427387904) e_wx_CS_state_25 ld_CS_143 (by decide) ?_
    exact w_lret C Rm E (fun _ _ z => z) wb.rfl' e_wx_CS_state_28 h
  · have h := wfn c4 h
    refine h_blk 9 [(0, vr 8 o), (1, vi a0), (2, vi a1), (3, vi a2)] [vi a1] C f_wx_CS_state_8_1 rfl ?_
    obtain ⟨c5, h⟩ := wgd h
    refine h_if_lt (tgt := 25) C e_wx_CS_state_9 (by decide) c5 (fun c6 => ?_) (fun c6 => ?_)
    · have h := wfp c6 h
      refine h_ldc2 C (-4611686018427387904) e_wx_CS_state_25 ld_CS_143 (by decide) ?_
      exact w_lret C Rm E (fun _ _ z => z) wb.rfl' e_wx_CS_state_28 h
    · have h := wfn c6 h
      refine h_blk 13 [(0, vr 8 o), (1, vi a0), (2, vi a1), (3, vi a2)] [vi a1] C f_wx_CS_state_12_1 rfl ?_
      refine h_ldc C 1000000 e_wx_CS_state_13 ld_CS_159 (by decide) ?_
      refine h_icmp_ge (tgt := 25) C e_wx_CS_state_15 (by decide) c5 (by decide) (fun c7 => ?_) (fun c7 => ?_)
      · have h := wfp c7 h
        refine h_ldc2 C (-4611686018427387904) e_wx_CS_state_25 ld_CS_143 (by decide) ?_
        exact w_lret C Rm E (fun _ _ z => z) wb.rfl' e_wx_CS_state_28 h
      · have h := wfn c7 h
        refine h_blk 19 [(0, vr 8 o), (1, vi a0), (2, vi a1), (3, vi a2)] [vi a2] C f_wx_CS_state_18_1 rfl ?_
        obtain ⟨q8, e9, h⟩ := h
        refine w_callS C Rm Y wb.rfl' [vi a2] [] (hx_CS_isPart l D B H0 G0 _ a2 _ _ e9) cl_CS_140 e_wx_CS_state_19 rfl rfl rfl ⟨by decide, by decide⟩ ?_
        rintro _ _ ⟨rfl, rfl⟩
        show HM g D G0 q0 q8.2 22 [(0, vr 8 o), (1, vi a0), (2, vi a1), (3, vi a2)] [vi q8.1]
        obtain ⟨c10, h⟩ := wgd h
        refine h_if_ne (tgt := 29) C e_wx_CS_state_22 (by decide) c10 (fun c11 => ?_) (fun c11 => ?_)
        · have h := wfn c11 h
          refine h_blk 31 [(0, vr 8 o), (1, vi a0), (2, vi a1), (3, vi a2)] [vi a0, vr 8 o] C f_wx_CS_state_29_2 rfl ?_
          refine w_wV C Rm Y wb.rfl' [vi a0] [] (wx_CS_endOf l D B H0 G0 k0 _ o a0 h_o _ h) cl_CS_107 h_o rfl rfl rfl e_wx_CS_state_31 rfl rfl rfl ⟨by decide, by decide⟩ (fun r12 A13 G14 k15 q16 p17 y18 b19 => ?_)
          have h := p17
          refine wk3 (fun c20 g21 => ?_) (fun c20 => ?_)
          · have h := wfp c20 h
            refine h_blk 38 [(4, vr 0 r12.toNat), (0, vr 8 o), (1, vi a0), (2, vi a1), (3, vi a2)] [vr 0 r12.toNat] C f_wx_CS_state_34_2 rfl ?_
            refine h_ifnull C e_wx_CS_state_38 ?_
            refine h_blk 43 [(4, vr 0 r12.toNat), (0, vr 8 o), (1, vi a0), (2, vi a1), (3, vi a2)] [vr 0 r12.toNat] C f_wx_CS_state_41_1 rfl ?_
            refine h_geti C e_wx_CS_state_43 fg_CS_111 g21 rfl rfl rfl (A13 0 r12.toNat 2) rfl ?_
            obtain ⟨c22, h⟩ := wgd h
            refine h_if_ne (tgt := 53) C e_wx_CS_state_46 (by decide) c22 (fun c23 => ?_) (fun c23 => ?_)
            · have h := wfn c23 h
              refine h_blk 56 [(4, vr 0 r12.toNat), (0, vr 8 o), (1, vi a0), (2, vi a1), (3, vi a2)] [vi a1, vr 0 r12.toNat] C f_wx_CS_state_53_2 rfl ?_
              obtain ⟨q24, e25, h⟩ := h
              refine w_callS C Rm Y b19 [vi a1] [vr 0 r12.toNat] (hx_CS_packed l D B H0 G14 _ a1 _ _ e25) cl_CS_160 e_wx_CS_state_56 rfl rfl rfl ⟨by decide, by decide⟩ ?_
              rintro _ _ ⟨rfl, rfl⟩
              show HM g D G14 q16 q24.2 59 [(4, vr 0 r12.toNat), (0, vr 8 o), (1, vi a0), (2, vi a1), (3, vi a2)] [vi q24.1, vr 0 r12.toNat]
              obtain ⟨q26, e27, h⟩ := h
              refine w_callV C Rm Y b19 [vi q24.1] [] (hx_Crowd_weightOf l D B H0 G14 _ r12.toNat q24.1 g21 _ _ e27) cl_CS_164 g21 rfl rfl rfl e_wx_CS_state_59 rfl rfl rfl ⟨by decide, by decide⟩ ?_
              rintro _ _ ⟨rfl, rfl⟩
              show HM g D G14 q16 q26.2 62 [(4, vr 0 r12.toNat), (0, vr 8 o), (1, vi a0), (2, vi a1), (3, vi a2)] [vl q26.1]
              refine h_blk 64 [(4, vr 0 r12.toNat), (0, vr 8 o), (1, vi a0), (2, vi a1), (3, vi a2)] [vr 0 r12.toNat, vl q26.1] C f_wx_CS_state_62_1 rfl ?_
              obtain ⟨q28, e29, h⟩ := h
              refine w_callV C Rm Y b19 [] [vl q26.1] (hx_Crowd_weight l D B H0 G14 _ r12.toNat g21 _ _ e29) cl_CS_145 g21 rfl rfl rfl e_wx_CS_state_64 rfl rfl rfl ⟨by decide, by decide⟩ ?_
              rintro _ _ ⟨rfl, rfl⟩
              show HM g D G14 q16 q28.2 67 [(4, vr 0 r12.toNat), (0, vr 8 o), (1, vi a0), (2, vi a1), (3, vi a2)] [vl q28.1, vl q26.1]
              refine h_blk 68 [(4, vr 0 r12.toNat), (0, vr 8 o), (1, vi a0), (2, vi a1), (3, vi a2)] [vi a2, vl q28.1, vl q26.1] C f_wx_CS_state_67_1 rfl ?_
              obtain ⟨q30, e31, h⟩ := h
              refine w_callS C Rm Y b19 [vl q26.1, vl q28.1, vi a2] [] (hx_CS_partOf l D B H0 G14 _ q26.1 q28.1 a2 _ _ e31) cl_CS_151 e_wx_CS_state_68 rfl rfl rfl ⟨by decide, by decide⟩ ?_
              rintro _ _ ⟨rfl, rfl⟩
              show HM g D G14 q16 q30.2 71 [(4, vr 0 r12.toNat), (0, vr 8 o), (1, vi a0), (2, vi a1), (3, vi a2)] [vl q30.1]
              exact w_lret C Rm E (fun a τ z => y18 a τ ((fun _ _ z => z) a τ z)) b19 e_wx_CS_state_71 h
            · have h := wfp c23 h
              refine h_ldc2 C (-4611686018427387904) e_wx_CS_state_49 ld_CS_143 (by decide) ?_
              exact w_lret C Rm E (fun a τ z => y18 a τ ((fun _ _ z => z) a τ z)) b19 e_wx_CS_state_52 h
          · have h := wfn (by omega)  h
            refine h_blk 38 [(4, vn), (0, vr 8 o), (1, vi a0), (2, vi a1), (3, vi a2)] [vn] C f_wx_CS_state_34_2 rfl ?_
            refine wn_ifnull (tgt := 49) C e_wx_CS_state_38 (by decide) ?_
            refine h_ldc2 C (-4611686018427387904) e_wx_CS_state_49 ld_CS_143 (by decide) ?_
            exact w_lret C Rm E (fun a τ z => y18 a τ ((fun _ _ z => z) a τ z)) b19 e_wx_CS_state_52 h
        · have h := wfp c11 h
          refine h_ldc2 C (-4611686018427387904) e_wx_CS_state_25 ld_CS_143 (by decide) ?_
          exact w_lret C Rm E (fun _ _ z => z) wb.rfl' e_wx_CS_state_28 h

def w_CS_fold_76 : Nat → Nat → tG → mA → Nat → Int → Int → Nat → Int → Int → wQ → Prop
  | 0, _, _, _, _, _, _, _, _, _, _ => False
  | n + 1, k, G, A, b0, b3, b4, b5, b6, b8, Q => (if g32 b8 then (if 10 ≤ b8 then (∃ q3, f_Crowd_weight A b5 = some q3 ∧ (∃ q5, f_CS_partOf q3.2 b6 q3.1 b4 = some q5 ∧ (Q q5.1 q5.2 G k))) else (if (0 ≤ b8 ∧ b8 < ((10 : Nat) : Int)) then (∃ q9, f_CS_foldedBy A b3 b8 = some q9 ∧ (w_CS_fold_76  n k G q9.2 b0 b3 b4 b5 (b6 + ((A 23 ((A 8 b0 11).toNat) b8.toNat) * q9.1)) (b8 + 1) Q)) else False)) else False)
def w_CS_fold (k0 : Nat) (G0 : tG) (A : mA) (o : Nat) (a0 : Int) (a1 : Int) (a2 : Int) (a3 : Int) (Q : wQ) : Prop := (∃ q11, f_CS_isProgram A o a0 = some q11 ∧ (if g32 q11.1 then (if q11.1 = 0 then (Q (-4611686018427387904) q11.2 G0 k0) else (∃ q15, f_CS_isName q11.2 a1 = some q15 ∧ (if g32 q15.1 then (if q15.1 = 0 then (Q (-4611686018427387904) q15.2 G0 k0) else (if g32 a2 then (if a2 < 0 then (Q (-4611686018427387904) q15.2 G0 k0) else (if 5 < a2 then (Q (-4611686018427387904) q15.2 G0 k0) else (∃ q22, f_CS_isPart q15.2 a3 = some q22 ∧ (if g32 q22.1 then (if q22.1 = 0 then (Q (-4611686018427387904) q22.2 G0 k0) else (w_CS_endOf k0 G0 q22.2 o a0 (fun r26 A27 G28 k29 => (if 0 ≤ r26 then (if g32 (A27 0 r26.toNat 2) then (if (A27 0 r26.toNat 2) = 0 then (Q (-4611686018427387904) A27 G28 k29) else (∃ q39, f_Crowd_spread A27 r26.toNat a1 ((A27 8 o 11).toNat) = some q39 ∧ (w_CS_fold_76  20 k29 G28 q39.2 o a2 a3 r26.toNat 0 0 Q))) else False) else (Q (-4611686018427387904) A27 G28 k29))))) else False)))) else False)) else False))) else False))
theorem f_wx_CS_fold_0_2 : mblkB b_CS_fold [(0, .aload_n 0, vi 0), (1, .iload_n 1, vi 0)] = true := by decide +kernel
theorem e_wx_CS_fold_2 : decode b_CS_fold 2 = .ok (.invokevirtual 94, 3) := by decide +kernel
theorem e_wx_CS_fold_5 : decode b_CS_fold 5 = .ok (.ifCond .eq 27, 3) := by decide +kernel
theorem e_wx_CS_fold_32 : decode b_CS_fold 32 = .ok (.ldc2_w 143, 3) := by decide +kernel
theorem e_wx_CS_fold_35 : decode b_CS_fold 35 = .ok (.lreturn, 1) := by decide +kernel
theorem f_wx_CS_fold_8_1 : mblkB b_CS_fold [(8, .iload_n 2, vi 0)] = true := by decide +kernel
theorem e_wx_CS_fold_9 : decode b_CS_fold 9 = .ok (.invokestatic 77, 3) := by decide +kernel
theorem e_wx_CS_fold_12 : decode b_CS_fold 12 = .ok (.ifCond .eq 20, 3) := by decide +kernel
theorem f_wx_CS_fold_15_1 : mblkB b_CS_fold [(15, .iload_n 3, vi 0)] = true := by decide +kernel
theorem e_wx_CS_fold_16 : decode b_CS_fold 16 = .ok (.ifCond .lt 16, 3) := by decide +kernel
theorem f_wx_CS_fold_19_2 : mblkB b_CS_fold [(19, .iload_n 3, vi 0), (20, .iconst 5, vi 5)] = true := by decide +kernel
theorem e_wx_CS_fold_21 : decode b_CS_fold 21 = .ok (.if_icmp .gt 11, 3) := by decide +kernel
theorem f_wx_CS_fold_24_1 : mblkB b_CS_fold [(24, .iload 4, vi 0)] = true := by decide +kernel
theorem e_wx_CS_fold_26 : decode b_CS_fold 26 = .ok (.invokestatic 140, 3) := by decide +kernel
theorem e_wx_CS_fold_29 : decode b_CS_fold 29 = .ok (.ifCond .ne 7, 3) := by decide +kernel
theorem f_wx_CS_fold_36_2 : mblkB b_CS_fold [(36, .aload_n 0, vi 0), (37, .iload_n 1, vi 0)] = true := by decide +kernel
theorem e_wx_CS_fold_38 : decode b_CS_fold 38 = .ok (.invokevirtual 107, 3) := by decide +kernel
theorem f_wx_CS_fold_41_2 : mblkB b_CS_fold [(41, .astore 5, vi 0), (43, .aload 5, vi 0)] = true := by decide +kernel
theorem e_wx_CS_fold_45 : decode b_CS_fold 45 = .ok (.ifnull 11, 3) := by decide +kernel
theorem f_wx_CS_fold_48_1 : mblkB b_CS_fold [(48, .aload 5, vi 0)] = true := by decide +kernel
theorem e_wx_CS_fold_50 : decode b_CS_fold 50 = .ok (.getfield 111, 3) := by decide +kernel
theorem e_wx_CS_fold_53 : decode b_CS_fold 53 = .ok (.ifCond .ne 7, 3) := by decide +kernel
theorem f_wx_CS_fold_60_3 : mblkB b_CS_fold [(60, .aload 5, vi 0), (62, .iload_n 2, vi 0), (63, .aload_n 0, vi 0)] = true := by decide +kernel
theorem e_wx_CS_fold_64 : decode b_CS_fold 64 = .ok (.getfield 39, 3) := by decide +kernel
theorem e_wx_CS_fold_67 : decode b_CS_fold 67 = .ok (.invokevirtual 155, 3) := by decide +kernel
theorem f_wx_CS_fold_70_4 : mblkB b_CS_fold [(70, .lconst 0, vl 0), (71, .lstore 6, vi 0), (73, .iconst 0, vi 0), (74, .istore 8, vi 0)] = true := by decide +kernel
theorem e_wx_CS_fold_56 : decode b_CS_fold 56 = .ok (.ldc2_w 143, 3) := by decide +kernel
theorem e_wx_CS_fold_59 : decode b_CS_fold 59 = .ok (.lreturn, 1) := by decide +kernel
theorem f_wx_CS_fold_76_2 : mblkB b_CS_fold [(76, .iload 8, vi 0), (78, .bipush 10, vi 10)] = true := by decide +kernel
theorem e_wx_CS_fold_80 : decode b_CS_fold 80 = .ok (.if_icmp .ge 28, 3) := by decide +kernel
theorem f_wx_CS_fold_108_2 : mblkB b_CS_fold [(108, .lload 6, vi 0), (110, .aload 5, vi 0)] = true := by decide +kernel
theorem e_wx_CS_fold_112 : decode b_CS_fold 112 = .ok (.invokevirtual 145, 3) := by decide +kernel
theorem f_wx_CS_fold_115_1 : mblkB b_CS_fold [(115, .iload 4, vi 0)] = true := by decide +kernel
theorem e_wx_CS_fold_117 : decode b_CS_fold 117 = .ok (.invokestatic 151, 3) := by decide +kernel
theorem e_wx_CS_fold_120 : decode b_CS_fold 120 = .ok (.lreturn, 1) := by decide +kernel
theorem f_wx_CS_fold_83_2 : mblkB b_CS_fold [(83, .lload 6, vi 0), (85, .aload_n 0, vi 0)] = true := by decide +kernel
theorem e_wx_CS_fold_86 : decode b_CS_fold 86 = .ok (.getfield 39, 3) := by decide +kernel
theorem f_wx_CS_fold_89_1 : mblkB b_CS_fold [(89, .iload 8, vi 0)] = true := by decide +kernel
theorem e_wx_CS_fold_91 : decode b_CS_fold 91 = .ok (.laload, 1) := by decide +kernel
theorem f_wx_CS_fold_92_2 : mblkB b_CS_fold [(92, .iload_n 3, vi 0), (93, .iload 8, vi 0)] = true := by decide +kernel
theorem e_wx_CS_fold_95 : decode b_CS_fold 95 = .ok (.invokestatic 168, 3) := by decide +kernel
theorem f_wx_CS_fold_98_5 : mblkB b_CS_fold [(98, .lmul, vi 0), (99, .ladd, vi 0), (100, .lstore 6, vi 0), (102, .iinc 8 1, vi 1), (105, .goto (-29), vi 76)] = true := by decide +kernel
set_option maxHeartbeats 4000000 in
set_option maxRecDepth 20000 in
theorem wx_CS_fold  : ∀ (l : Launch) (D : va_G) (B : Nat) (H0 : Heap) (G0 : tG) (k0 : Nat) (A : mA) (o : Nat) (a0 : Int) (a1 : Int) (a2 : Int) (a3 : Int) (h_o : G0 o = some 8)  (Q : wQ), w_CS_fold  k0 G0 A o a0 a1 a2 a3 Q → wMet l D B H0 G0 k0 y_CS_fold b_CS_fold 9 (some .long) 465 15134 2 [vr 8 o, vi a0, vi a1, vi a2, vi a3] A Q := by
  intro l D B H0 G0 k0 A o a0 a1 a2 a3 h_o Q h
  refine w_met (by decide) rfl (fun g q0 C Rm Y E => ?_)
  have hd_76 : ∀ (n : Nat) (k : Nat) (G : tG) (q : Nat × Nat) (hgo : ∀ a τ, G0 a = some τ → G a = some τ) (hb : wb q0 k0 q k) (A : mA) (b0 : Nat) (b3 : Int) (b4 : Int) (b5 : Nat) (b6 : Int) (b8 : Int) , G b0 = some 8 → G b5 = some 0 → w_CS_fold_76   n k G A b0 b3 b4 b5 b6 b8 Q → HM g D G q A 76 [(0, vr 8 b0), (3, vi b3), (4, vi b4), (5, vr 0 b5), (6, vl b6), (8, vi b8)] [] := by
    intro  n
    induction n with
    | zero => intro k G q hgo hb A b0 b3 b4 b5 b6 b8 h_b0 h_b5 h; exact h.elim
    | succ n ih =>
      intro k G q hgo hb A b0 b3 b4 b5 b6 b8 h_b0 h_b5 h
      unfold w_CS_fold_76 at h
      refine h_blk 80 [(0, vr 8 b0), (3, vi b3), (4, vi b4), (5, vr 0 b5), (6, vl b6), (8, vi b8)] [vi 10, vi b8] C f_wx_CS_fold_76_2 rfl ?_
      obtain ⟨c1, h⟩ := wgd h
      refine h_icmp_ge (tgt := 108) C e_wx_CS_fold_80 (by decide) c1 (by decide) (fun c2 => ?_) (fun c2 => ?_)
      · have h := wfp c2 h
        refine h_blk 112 [(0, vr 8 b0), (3, vi b3), (4, vi b4), (5, vr 0 b5), (6, vl b6), (8, vi b8)] [vr 0 b5, vl b6] C f_wx_CS_fold_108_2 rfl ?_
        obtain ⟨q3, e4, h⟩ := h
        refine w_callV C Rm Y hb [] [vl b6] (hx_Crowd_weight l D B H0 G _ b5 h_b5 _ _ e4) cl_CS_145 h_b5 rfl rfl rfl e_wx_CS_fold_112 rfl rfl rfl ⟨by decide, by decide⟩ ?_
        rintro _ _ ⟨rfl, rfl⟩
        show HM g D G q q3.2 115 [(0, vr 8 b0), (3, vi b3), (4, vi b4), (5, vr 0 b5), (6, vl b6), (8, vi b8)] [vl q3.1, vl b6]
        refine h_blk 117 [(0, vr 8 b0), (3, vi b3), (4, vi b4), (5, vr 0 b5), (6, vl b6), (8, vi b8)] [vi b4, vl q3.1, vl b6] C f_wx_CS_fold_115_1 rfl ?_
        obtain ⟨q5, e6, h⟩ := h
        refine w_callS C Rm Y hb [vl b6, vl q3.1, vi b4] [] (hx_CS_partOf l D B H0 G _ b6 q3.1 b4 _ _ e6) cl_CS_151 e_wx_CS_fold_117 rfl rfl rfl ⟨by decide, by decide⟩ ?_
        rintro _ _ ⟨rfl, rfl⟩
        show HM g D G q q5.2 120 [(0, vr 8 b0), (3, vi b3), (4, vi b4), (5, vr 0 b5), (6, vl b6), (8, vi b8)] [vl q5.1]
        exact w_lret C Rm E hgo hb e_wx_CS_fold_120 h
      · have h := wfn c2 h
        refine h_blk 86 [(0, vr 8 b0), (3, vi b3), (4, vi b4), (5, vr 0 b5), (6, vl b6), (8, vi b8)] [vr 8 b0, vl b6] C f_wx_CS_fold_83_2 rfl ?_
        refine h_getr4 C e_wx_CS_fold_86 fg_CS_39 h_b0 rfl rfl rfl rfl (fun g7 => ?_)
        refine h_blk 91 [(0, vr 8 b0), (3, vi b3), (4, vi b4), (5, vr 0 b5), (6, vl b6), (8, vi b8)] [vi b8, vr 23 ((A 8 b0 11).toNat), vl b6] C f_wx_CS_fold_89_1 rfl ?_
        obtain ⟨c8, h⟩ := wgd h
        refine h_lald C e_wx_CS_fold_91 g7 rfl rfl (by decide) c8.1 c8.2 (A 23 ((A 8 b0 11).toNat) b8.toNat) rfl ?_
        refine h_blk 95 [(0, vr 8 b0), (3, vi b3), (4, vi b4), (5, vr 0 b5), (6, vl b6), (8, vi b8)] [vi b8, vi b3, vl (A 23 ((A 8 b0 11).toNat) b8.toNat), vl b6] C f_wx_CS_fold_92_2 rfl ?_
        obtain ⟨q9, e10, h⟩ := h
        refine w_callS C Rm Y hb [vi b3, vi b8] [vl (A 23 ((A 8 b0 11).toNat) b8.toNat), vl b6] (hx_CS_foldedBy l D B H0 G _ b3 b8 _ _ e10) cl_CS_168 e_wx_CS_fold_95 rfl rfl rfl ⟨by decide, by decide⟩ ?_
        rintro _ _ ⟨rfl, rfl⟩
        show HM g D G q q9.2 98 [(0, vr 8 b0), (3, vi b3), (4, vi b4), (5, vr 0 b5), (6, vl b6), (8, vi b8)] [vl q9.1, vl (A 23 ((A 8 b0 11).toNat) b8.toNat), vl b6]
        refine h_blk 76 [(8, vi (b8 + 1)), (6, vl (b6 + ((A 23 ((A 8 b0 11).toNat) b8.toNat) * q9.1))), (0, vr 8 b0), (3, vi b3), (4, vi b4), (5, vr 0 b5)] [] C f_wx_CS_fold_98_5 rfl ?_
        refine h_loc [(0, vr 8 b0), (3, vi b3), (4, vi b4), (5, vr 0 b5), (6, vl (b6 + ((A 23 ((A 8 b0 11).toNat) b8.toNat) * q9.1))), (8, vi (b8 + 1))] ⟨rfl, rfl, rfl, rfl, rfl, rfl, trivial⟩ ?_
        exact ih k G q hgo hb q9.2 b0 b3 b4 b5 (b6 + ((A 23 ((A 8 b0 11).toNat) b8.toNat) * q9.1)) (b8 + 1) (h_b0) (h_b5) h
  show HM g D G0 q0 A 0 [(0, vr 8 o), (1, vi a0), (2, vi a1), (3, vi a2), (4, vi a3)] []
  unfold w_CS_fold at h
  refine h_blk 2 [(0, vr 8 o), (1, vi a0), (2, vi a1), (3, vi a2), (4, vi a3)] [vi a0, vr 8 o] C f_wx_CS_fold_0_2 rfl ?_
  obtain ⟨q11, e12, h⟩ := h
  refine w_callV C Rm Y wb.rfl' [vi a0] [] (hx_CS_isProgram l D B H0 G0 _ o a0 h_o _ _ e12) cl_CS_94 h_o rfl rfl rfl e_wx_CS_fold_2 rfl rfl rfl ⟨by decide, by decide⟩ ?_
  rintro _ _ ⟨rfl, rfl⟩
  show HM g D G0 q0 q11.2 5 [(0, vr 8 o), (1, vi a0), (2, vi a1), (3, vi a2), (4, vi a3)] [vi q11.1]
  obtain ⟨c13, h⟩ := wgd h
  refine h_if_eq (tgt := 32) C e_wx_CS_fold_5 (by decide) c13 (fun c14 => ?_) (fun c14 => ?_)
  · have h := wfp c14 h
    refine h_ldc2 C (-4611686018427387904) e_wx_CS_fold_32 ld_CS_143 (by decide) ?_
    exact w_lret C Rm E (fun _ _ z => z) wb.rfl' e_wx_CS_fold_35 h
  · have h := wfn c14 h
    refine h_blk 9 [(0, vr 8 o), (1, vi a0), (2, vi a1), (3, vi a2), (4, vi a3)] [vi a1] C f_wx_CS_fold_8_1 rfl ?_
    obtain ⟨q15, e16, h⟩ := h
    refine w_callS C Rm Y wb.rfl' [vi a1] [] (hx_CS_isName l D B H0 G0 _ a1 _ _ e16) cl_CS_77 e_wx_CS_fold_9 rfl rfl rfl ⟨by decide, by decide⟩ ?_
    rintro _ _ ⟨rfl, rfl⟩
    show HM g D G0 q0 q15.2 12 [(0, vr 8 o), (1, vi a0), (2, vi a1), (3, vi a2), (4, vi a3)] [vi q15.1]
    obtain ⟨c17, h⟩ := wgd h
    refine h_if_eq (tgt := 32) C e_wx_CS_fold_12 (by decide) c17 (fun c18 => ?_) (fun c18 => ?_)
    · have h := wfp c18 h
      refine h_ldc2 C (-4611686018427387904) e_wx_CS_fold_32 ld_CS_143 (by decide) ?_
      exact w_lret C Rm E (fun _ _ z => z) wb.rfl' e_wx_CS_fold_35 h
    · have h := wfn c18 h
      refine h_blk 16 [(0, vr 8 o), (1, vi a0), (2, vi a1), (3, vi a2), (4, vi a3)] [vi a2] C f_wx_CS_fold_15_1 rfl ?_
      obtain ⟨c19, h⟩ := wgd h
      refine h_if_lt (tgt := 32) C e_wx_CS_fold_16 (by decide) c19 (fun c20 => ?_) (fun c20 => ?_)
      · have h := wfp c20 h
        refine h_ldc2 C (-4611686018427387904) e_wx_CS_fold_32 ld_CS_143 (by decide) ?_
        exact w_lret C Rm E (fun _ _ z => z) wb.rfl' e_wx_CS_fold_35 h
      · have h := wfn c20 h
        refine h_blk 21 [(0, vr 8 o), (1, vi a0), (2, vi a1), (3, vi a2), (4, vi a3)] [vi 5, vi a2] C f_wx_CS_fold_19_2 rfl ?_
        refine h_icmp_gt (tgt := 32) C e_wx_CS_fold_21 (by decide) c19 (by decide) (fun c21 => ?_) (fun c21 => ?_)
        · have h := wfp c21 h
          refine h_ldc2 C (-4611686018427387904) e_wx_CS_fold_32 ld_CS_143 (by decide) ?_
          exact w_lret C Rm E (fun _ _ z => z) wb.rfl' e_wx_CS_fold_35 h
        · have h := wfn c21 h
          refine h_blk 26 [(0, vr 8 o), (1, vi a0), (2, vi a1), (3, vi a2), (4, vi a3)] [vi a3] C f_wx_CS_fold_24_1 rfl ?_
          obtain ⟨q22, e23, h⟩ := h
          refine w_callS C Rm Y wb.rfl' [vi a3] [] (hx_CS_isPart l D B H0 G0 _ a3 _ _ e23) cl_CS_140 e_wx_CS_fold_26 rfl rfl rfl ⟨by decide, by decide⟩ ?_
          rintro _ _ ⟨rfl, rfl⟩
          show HM g D G0 q0 q22.2 29 [(0, vr 8 o), (1, vi a0), (2, vi a1), (3, vi a2), (4, vi a3)] [vi q22.1]
          obtain ⟨c24, h⟩ := wgd h
          refine h_if_ne (tgt := 36) C e_wx_CS_fold_29 (by decide) c24 (fun c25 => ?_) (fun c25 => ?_)
          · have h := wfn c25 h
            refine h_blk 38 [(0, vr 8 o), (1, vi a0), (2, vi a1), (3, vi a2), (4, vi a3)] [vi a0, vr 8 o] C f_wx_CS_fold_36_2 rfl ?_
            refine w_wV C Rm Y wb.rfl' [vi a0] [] (wx_CS_endOf l D B H0 G0 k0 _ o a0 h_o _ h) cl_CS_107 h_o rfl rfl rfl e_wx_CS_fold_38 rfl rfl rfl ⟨by decide, by decide⟩ (fun r26 A27 G28 k29 q30 p31 y32 b33 => ?_)
            have h := p31
            refine wk3 (fun c34 g35 => ?_) (fun c34 => ?_)
            · have h := wfp c34 h
              refine h_blk 45 [(5, vr 0 r26.toNat), (0, vr 8 o), (1, vi a0), (2, vi a1), (3, vi a2), (4, vi a3)] [vr 0 r26.toNat] C f_wx_CS_fold_41_2 rfl ?_
              refine h_ifnull C e_wx_CS_fold_45 ?_
              refine h_blk 50 [(5, vr 0 r26.toNat), (0, vr 8 o), (1, vi a0), (2, vi a1), (3, vi a2), (4, vi a3)] [vr 0 r26.toNat] C f_wx_CS_fold_48_1 rfl ?_
              refine h_geti C e_wx_CS_fold_50 fg_CS_111 g35 rfl rfl rfl (A27 0 r26.toNat 2) rfl ?_
              obtain ⟨c36, h⟩ := wgd h
              refine h_if_ne (tgt := 60) C e_wx_CS_fold_53 (by decide) c36 (fun c37 => ?_) (fun c37 => ?_)
              · have h := wfn c37 h
                refine h_blk 64 [(5, vr 0 r26.toNat), (0, vr 8 o), (1, vi a0), (2, vi a1), (3, vi a2), (4, vi a3)] [vr 8 o, vi a1, vr 0 r26.toNat] C f_wx_CS_fold_60_3 rfl ?_
                refine h_getr4 C e_wx_CS_fold_64 fg_CS_39 (y32 _ _ h_o) rfl rfl rfl rfl (fun g38 => ?_)
                obtain ⟨q39, e40, h⟩ := h
                refine w_callV C Rm Y b33 [vi a1, vr 23 ((A27 8 o 11).toNat)] [] (hx_Crowd_spread l D B H0 G28 _ r26.toNat a1 ((A27 8 o 11).toNat) g35 g38 _ _ e40) cl_CS_155 g35 rfl rfl rfl e_wx_CS_fold_67 rfl rfl rfl ⟨by decide, by decide⟩ ?_
                rintro _ _ ⟨rfl, rfl⟩
                show HM g D G28 q30 q39.2 70 [(5, vr 0 r26.toNat), (0, vr 8 o), (1, vi a0), (2, vi a1), (3, vi a2), (4, vi a3)] []
                refine h_blk 76 [(8, vi 0), (6, vl 0), (5, vr 0 r26.toNat), (0, vr 8 o), (1, vi a0), (2, vi a1), (3, vi a2), (4, vi a3)] [] C f_wx_CS_fold_70_4 rfl ?_
                refine h_loc [(0, vr 8 o), (3, vi a2), (4, vi a3), (5, vr 0 r26.toNat), (6, vl 0), (8, vi 0)] ⟨rfl, rfl, rfl, rfl, rfl, rfl, trivial⟩ ?_
                exact hd_76 _ k29 G28 q30 (fun a τ z => y32 a τ ((fun _ _ z => z) a τ z)) b33 q39.2 o a2 a3 r26.toNat 0 0 ((y32 _ _ h_o)) (g35) h
              · have h := wfp c37 h
                refine h_ldc2 C (-4611686018427387904) e_wx_CS_fold_56 ld_CS_143 (by decide) ?_
                exact w_lret C Rm E (fun a τ z => y32 a τ ((fun _ _ z => z) a τ z)) b33 e_wx_CS_fold_59 h
            · have h := wfn (by omega)  h
              refine h_blk 45 [(5, vn), (0, vr 8 o), (1, vi a0), (2, vi a1), (3, vi a2), (4, vi a3)] [vn] C f_wx_CS_fold_41_2 rfl ?_
              refine wn_ifnull (tgt := 56) C e_wx_CS_fold_45 (by decide) ?_
              refine h_ldc2 C (-4611686018427387904) e_wx_CS_fold_56 ld_CS_143 (by decide) ?_
              exact w_lret C Rm E (fun a τ z => y32 a τ ((fun _ _ z => z) a τ z)) b33 e_wx_CS_fold_59 h
          · have h := wfp c25 h
            refine h_ldc2 C (-4611686018427387904) e_wx_CS_fold_32 ld_CS_143 (by decide) ?_
            exact w_lret C Rm E (fun _ _ z => z) wb.rfl' e_wx_CS_fold_35 h

def w_CS_likeliest_79 : Nat → Nat → tG → mA → Nat → Int → Int → wQ → Prop
  | 0, _, _, _, _, _, _, _ => False
  | n + 1, k, G, A, b0, b4, b5, Q => (if g32 b5 then (if 10 ≤ b5 then (Q b4 A G k) else (if (0 ≤ b5 ∧ b5 < ((10 : Nat) : Int)) then (if (0 ≤ b4 ∧ b4 < ((10 : Nat) : Int)) then (if g64 (A 23 ((A 8 b0 11).toNat) b5.toNat) then (if g64 (A 23 ((A 8 b0 11).toNat) b4.toNat) then (if (lc (A 23 ((A 8 b0 11).toNat) b5.toNat) (A 23 ((A 8 b0 11).toNat) b4.toNat)) ≤ 0 then (w_CS_likeliest_79  n k G A b0 b4 (b5 + 1) Q) else (w_CS_likeliest_79  n k G A b0 b5 (b5 + 1) Q)) else False) else False) else False) else False)) else False)
def w_CS_likeliest (k0 : Nat) (G0 : tG) (A : mA) (o : Nat) (a0 : Int) (a1 : Int) (Q : wQ) : Prop := (∃ q11, f_CS_isProgram A o a0 = some q11 ∧ (if g32 q11.1 then (if q11.1 = 0 then (Q (-2) q11.2 G0 k0) else (if g32 a1 then (if a1 < 0 then (Q (-2) q11.2 G0 k0) else (if a1 ≤ 6 then (w_CS_endOf k0 G0 q11.2 o a0 (fun r18 A19 G20 k21 => (if 0 ≤ r18 then (if g32 (A19 0 r18.toNat 2) then (if (A19 0 r18.toNat 2) = 0 then (Q (-7) A19 G20 k21) else (if g32 a1 then (if a1 = 6 then (∃ q35, f_Crowd_likeliestState A19 r18.toNat = some q35 ∧ (∃ q37, f_CS_unpacked q35.2 q35.1 = some q37 ∧ (Q q37.1 q37.2 G20 k21))) else (∃ q33, f_Crowd_spread A19 r18.toNat a1 ((A19 8 o 11).toNat) = some q33 ∧ (w_CS_likeliest_79  20 k21 G20 q33.2 o 0 1 Q))) else False)) else False) else (Q (-6) A19 G20 k21)))) else (Q (-2) q11.2 G0 k0))) else False)) else False))
theorem f_wx_CS_likeliest_0_2 : mblkB b_CS_likeliest [(0, .aload_n 0, vi 0), (1, .iload_n 1, vi 0)] = true := by decide +kernel
theorem e_wx_CS_likeliest_2 : decode b_CS_likeliest 2 = .ok (.invokevirtual 94, 3) := by decide +kernel
theorem e_wx_CS_likeliest_5 : decode b_CS_likeliest 5 = .ok (.ifCond .eq 13, 3) := by decide +kernel
theorem f_wx_CS_likeliest_18_1 : mblkB b_CS_likeliest [(18, .bipush (-2), vi (-2))] = true := by decide +kernel
theorem e_wx_CS_likeliest_20 : decode b_CS_likeliest 20 = .ok (.ireturn, 1) := by decide +kernel
theorem f_wx_CS_likeliest_8_1 : mblkB b_CS_likeliest [(8, .iload_n 2, vi 0)] = true := by decide +kernel
theorem e_wx_CS_likeliest_9 : decode b_CS_likeliest 9 = .ok (.ifCond .lt 9, 3) := by decide +kernel
theorem f_wx_CS_likeliest_12_2 : mblkB b_CS_likeliest [(12, .iload_n 2, vi 0), (13, .bipush 6, vi 6)] = true := by decide +kernel
theorem e_wx_CS_likeliest_15 : decode b_CS_likeliest 15 = .ok (.if_icmp .le 6, 3) := by decide +kernel
theorem f_wx_CS_likeliest_21_2 : mblkB b_CS_likeliest [(21, .aload_n 0, vi 0), (22, .iload_n 1, vi 0)] = true := by decide +kernel
theorem e_wx_CS_likeliest_23 : decode b_CS_likeliest 23 = .ok (.invokevirtual 107, 3) := by decide +kernel
theorem f_wx_CS_likeliest_26_2 : mblkB b_CS_likeliest [(26, .astore_n 3, vi 0), (27, .aload_n 3, vi 0)] = true := by decide +kernel
theorem e_wx_CS_likeliest_28 : decode b_CS_likeliest 28 = .ok (.ifnull 10, 3) := by decide +kernel
theorem f_wx_CS_likeliest_31_1 : mblkB b_CS_likeliest [(31, .aload_n 3, vi 0)] = true := by decide +kernel
theorem e_wx_CS_likeliest_32 : decode b_CS_likeliest 32 = .ok (.getfield 111, 3) := by decide +kernel
theorem e_wx_CS_likeliest_35 : decode b_CS_likeliest 35 = .ok (.ifCond .ne 15, 3) := by decide +kernel
theorem f_wx_CS_likeliest_50_2 : mblkB b_CS_likeliest [(50, .iload_n 2, vi 0), (51, .bipush 6, vi 6)] = true := by decide +kernel
theorem e_wx_CS_likeliest_53 : decode b_CS_likeliest 53 = .ok (.if_icmp .ne 11, 3) := by decide +kernel
theorem f_wx_CS_likeliest_64_3 : mblkB b_CS_likeliest [(64, .aload_n 3, vi 0), (65, .iload_n 2, vi 0), (66, .aload_n 0, vi 0)] = true := by decide +kernel
theorem e_wx_CS_likeliest_67 : decode b_CS_likeliest 67 = .ok (.getfield 39, 3) := by decide +kernel
theorem e_wx_CS_likeliest_70 : decode b_CS_likeliest 70 = .ok (.invokevirtual 155, 3) := by decide +kernel
theorem f_wx_CS_likeliest_73_4 : mblkB b_CS_likeliest [(73, .iconst 0, vi 0), (74, .istore 4, vi 0), (76, .iconst 1, vi 1), (77, .istore 5, vi 0)] = true := by decide +kernel
theorem f_wx_CS_likeliest_56_1 : mblkB b_CS_likeliest [(56, .aload_n 3, vi 0)] = true := by decide +kernel
theorem e_wx_CS_likeliest_57 : decode b_CS_likeliest 57 = .ok (.invokevirtual 172, 3) := by decide +kernel
theorem e_wx_CS_likeliest_60 : decode b_CS_likeliest 60 = .ok (.invokestatic 176, 3) := by decide +kernel
theorem e_wx_CS_likeliest_63 : decode b_CS_likeliest 63 = .ok (.ireturn, 1) := by decide +kernel
theorem f_wx_CS_likeliest_38_1 : mblkB b_CS_likeliest [(38, .aload_n 3, vi 0)] = true := by decide +kernel
theorem e_wx_CS_likeliest_39 : decode b_CS_likeliest 39 = .ok (.ifnonnull 8, 3) := by decide +kernel
theorem f_wx_CS_likeliest_47_1 : mblkB b_CS_likeliest [(47, .bipush (-7), vi (-7))] = true := by decide +kernel
theorem e_wx_CS_likeliest_49 : decode b_CS_likeliest 49 = .ok (.ireturn, 1) := by decide +kernel
theorem f_wx_CS_likeliest_42_2 : mblkB b_CS_likeliest [(42, .bipush (-6), vi (-6)), (44, .goto 5, vi 49)] = true := by decide +kernel
theorem f_wx_CS_likeliest_79_2 : mblkB b_CS_likeliest [(79, .iload 5, vi 0), (81, .bipush 10, vi 10)] = true := by decide +kernel
theorem e_wx_CS_likeliest_83 : decode b_CS_likeliest 83 = .ok (.if_icmp .ge 36, 3) := by decide +kernel
theorem f_wx_CS_likeliest_119_1 : mblkB b_CS_likeliest [(119, .iload 4, vi 0)] = true := by decide +kernel
theorem e_wx_CS_likeliest_121 : decode b_CS_likeliest 121 = .ok (.ireturn, 1) := by decide +kernel
theorem f_wx_CS_likeliest_86_1 : mblkB b_CS_likeliest [(86, .aload_n 0, vi 0)] = true := by decide +kernel
theorem e_wx_CS_likeliest_87 : decode b_CS_likeliest 87 = .ok (.getfield 39, 3) := by decide +kernel
theorem f_wx_CS_likeliest_90_1 : mblkB b_CS_likeliest [(90, .iload 5, vi 0)] = true := by decide +kernel
theorem e_wx_CS_likeliest_92 : decode b_CS_likeliest 92 = .ok (.laload, 1) := by decide +kernel
theorem f_wx_CS_likeliest_93_1 : mblkB b_CS_likeliest [(93, .aload_n 0, vi 0)] = true := by decide +kernel
theorem e_wx_CS_likeliest_94 : decode b_CS_likeliest 94 = .ok (.getfield 39, 3) := by decide +kernel
theorem f_wx_CS_likeliest_97_1 : mblkB b_CS_likeliest [(97, .iload 4, vi 0)] = true := by decide +kernel
theorem e_wx_CS_likeliest_99 : decode b_CS_likeliest 99 = .ok (.laload, 1) := by decide +kernel
theorem e_wx_CS_likeliest_100 : decode b_CS_likeliest 100 = .ok (.lcmp, 1) := by decide +kernel
theorem e_wx_CS_likeliest_101 : decode b_CS_likeliest 101 = .ok (.ifCond .le 8, 3) := by decide +kernel
theorem f_wx_CS_likeliest_109_4 : mblkB b_CS_likeliest [(109, .iload 4, vi 0), (111, .istore 4, vi 0), (113, .iinc 5 1, vi 1), (116, .goto (-37), vi 79)] = true := by decide +kernel
theorem f_wx_CS_likeliest_104_2 : mblkB b_CS_likeliest [(104, .iload 5, vi 0), (106, .goto 5, vi 111)] = true := by decide +kernel
theorem f_wx_CS_likeliest_111_3 : mblkB b_CS_likeliest [(111, .istore 4, vi 0), (113, .iinc 5 1, vi 1), (116, .goto (-37), vi 79)] = true := by decide +kernel
set_option maxHeartbeats 4000000 in
set_option maxRecDepth 20000 in
theorem wx_CS_likeliest  : ∀ (l : Launch) (D : va_G) (B : Nat) (H0 : Heap) (G0 : tG) (k0 : Nat) (A : mA) (o : Nat) (a0 : Int) (a1 : Int) (h_o : G0 o = some 8)  (Q : wQ), w_CS_likeliest  k0 G0 A o a0 a1 Q → wMet l D B H0 G0 k0 y_CS_likeliest b_CS_likeliest 6 (some .int) 465 15134 1 [vr 8 o, vi a0, vi a1] A Q := by
  intro l D B H0 G0 k0 A o a0 a1 h_o Q h
  refine w_met (by decide) rfl (fun g q0 C Rm Y E => ?_)
  have hd_79 : ∀ (n : Nat) (k : Nat) (G : tG) (q : Nat × Nat) (hgo : ∀ a τ, G0 a = some τ → G a = some τ) (hb : wb q0 k0 q k) (A : mA) (b0 : Nat) (b4 : Int) (b5 : Int) , G b0 = some 8 → w_CS_likeliest_79   n k G A b0 b4 b5 Q → HM g D G q A 79 [(0, vr 8 b0), (4, vi b4), (5, vi b5)] [] := by
    intro  n
    induction n with
    | zero => intro k G q hgo hb A b0 b4 b5 h_b0 h; exact h.elim
    | succ n ih =>
      intro k G q hgo hb A b0 b4 b5 h_b0 h
      unfold w_CS_likeliest_79 at h
      refine h_blk 83 [(0, vr 8 b0), (4, vi b4), (5, vi b5)] [vi 10, vi b5] C f_wx_CS_likeliest_79_2 rfl ?_
      obtain ⟨c1, h⟩ := wgd h
      refine h_icmp_ge (tgt := 119) C e_wx_CS_likeliest_83 (by decide) c1 (by decide) (fun c2 => ?_) (fun c2 => ?_)
      · have h := wfp c2 h
        refine h_blk 121 [(0, vr 8 b0), (4, vi b4), (5, vi b5)] [vi b4] C f_wx_CS_likeliest_119_1 rfl ?_
        exact w_iret C Rm E hgo hb e_wx_CS_likeliest_121 h
      · have h := wfn c2 h
        refine h_blk 87 [(0, vr 8 b0), (4, vi b4), (5, vi b5)] [vr 8 b0] C f_wx_CS_likeliest_86_1 rfl ?_
        refine h_getr4 C e_wx_CS_likeliest_87 fg_CS_39 h_b0 rfl rfl rfl rfl (fun g3 => ?_)
        refine h_blk 92 [(0, vr 8 b0), (4, vi b4), (5, vi b5)] [vi b5, vr 23 ((A 8 b0 11).toNat)] C f_wx_CS_likeliest_90_1 rfl ?_
        obtain ⟨c4, h⟩ := wgd h
        refine h_lald C e_wx_CS_likeliest_92 g3 rfl rfl (by decide) c4.1 c4.2 (A 23 ((A 8 b0 11).toNat) b5.toNat) rfl ?_
        refine h_blk 94 [(0, vr 8 b0), (4, vi b4), (5, vi b5)] [vr 8 b0, vl (A 23 ((A 8 b0 11).toNat) b5.toNat)] C f_wx_CS_likeliest_93_1 rfl ?_
        refine h_getr4 C e_wx_CS_likeliest_94 fg_CS_39 h_b0 rfl rfl rfl rfl (fun g5 => ?_)
        refine h_blk 99 [(0, vr 8 b0), (4, vi b4), (5, vi b5)] [vi b4, vr 23 ((A 8 b0 11).toNat), vl (A 23 ((A 8 b0 11).toNat) b5.toNat)] C f_wx_CS_likeliest_97_1 rfl ?_
        obtain ⟨c6, h⟩ := wgd h
        refine h_lald C e_wx_CS_likeliest_99 g5 rfl rfl (by decide) c6.1 c6.2 (A 23 ((A 8 b0 11).toNat) b4.toNat) rfl ?_
        obtain ⟨c7, h⟩ := wgd h
        obtain ⟨c8, h⟩ := wgd h
        refine h_lcmp C e_wx_CS_likeliest_100 c7 c8 (fun z9 hz9 => ?_)
        obtain rfl : z9 = lc (A 23 ((A 8 b0 11).toNat) b5.toNat) (A 23 ((A 8 b0 11).toNat) b4.toNat) := lc_of hz9
        refine h_if_le (tgt := 109) C e_wx_CS_likeliest_101 (by decide) lc_r (fun c10 => ?_) (fun c10 => ?_)
        · have h := wfp c10 h
          refine h_blk 79 [(5, vi (b5 + 1)), (4, vi b4), (0, vr 8 b0)] [] C f_wx_CS_likeliest_109_4 rfl ?_
          refine h_loc [(0, vr 8 b0), (4, vi b4), (5, vi (b5 + 1))] ⟨rfl, rfl, rfl, trivial⟩ ?_
          exact ih k G q hgo hb A b0 b4 (b5 + 1) (h_b0) h
        · have h := wfn c10 h
          refine h_blk 111 [(0, vr 8 b0), (4, vi b4), (5, vi b5)] [vi b5] C f_wx_CS_likeliest_104_2 rfl ?_
          refine h_blk 79 [(5, vi (b5 + 1)), (4, vi b5), (0, vr 8 b0)] [] C f_wx_CS_likeliest_111_3 rfl ?_
          refine h_loc [(0, vr 8 b0), (4, vi b5), (5, vi (b5 + 1))] ⟨rfl, rfl, rfl, trivial⟩ ?_
          exact ih k G q hgo hb A b0 b5 (b5 + 1) (h_b0) h
  show HM g D G0 q0 A 0 [(0, vr 8 o), (1, vi a0), (2, vi a1)] []
  unfold w_CS_likeliest at h
  refine h_blk 2 [(0, vr 8 o), (1, vi a0), (2, vi a1)] [vi a0, vr 8 o] C f_wx_CS_likeliest_0_2 rfl ?_
  obtain ⟨q11, e12, h⟩ := h
  refine w_callV C Rm Y wb.rfl' [vi a0] [] (hx_CS_isProgram l D B H0 G0 _ o a0 h_o _ _ e12) cl_CS_94 h_o rfl rfl rfl e_wx_CS_likeliest_2 rfl rfl rfl ⟨by decide, by decide⟩ ?_
  rintro _ _ ⟨rfl, rfl⟩
  show HM g D G0 q0 q11.2 5 [(0, vr 8 o), (1, vi a0), (2, vi a1)] [vi q11.1]
  obtain ⟨c13, h⟩ := wgd h
  refine h_if_eq (tgt := 18) C e_wx_CS_likeliest_5 (by decide) c13 (fun c14 => ?_) (fun c14 => ?_)
  · have h := wfp c14 h
    refine h_blk 20 [(0, vr 8 o), (1, vi a0), (2, vi a1)] [vi (-2)] C f_wx_CS_likeliest_18_1 rfl ?_
    exact w_iret C Rm E (fun _ _ z => z) wb.rfl' e_wx_CS_likeliest_20 h
  · have h := wfn c14 h
    refine h_blk 9 [(0, vr 8 o), (1, vi a0), (2, vi a1)] [vi a1] C f_wx_CS_likeliest_8_1 rfl ?_
    obtain ⟨c15, h⟩ := wgd h
    refine h_if_lt (tgt := 18) C e_wx_CS_likeliest_9 (by decide) c15 (fun c16 => ?_) (fun c16 => ?_)
    · have h := wfp c16 h
      refine h_blk 20 [(0, vr 8 o), (1, vi a0), (2, vi a1)] [vi (-2)] C f_wx_CS_likeliest_18_1 rfl ?_
      exact w_iret C Rm E (fun _ _ z => z) wb.rfl' e_wx_CS_likeliest_20 h
    · have h := wfn c16 h
      refine h_blk 15 [(0, vr 8 o), (1, vi a0), (2, vi a1)] [vi 6, vi a1] C f_wx_CS_likeliest_12_2 rfl ?_
      refine h_icmp_le (tgt := 21) C e_wx_CS_likeliest_15 (by decide) c15 (by decide) (fun c17 => ?_) (fun c17 => ?_)
      · have h := wfp c17 h
        refine h_blk 23 [(0, vr 8 o), (1, vi a0), (2, vi a1)] [vi a0, vr 8 o] C f_wx_CS_likeliest_21_2 rfl ?_
        refine w_wV C Rm Y wb.rfl' [vi a0] [] (wx_CS_endOf l D B H0 G0 k0 _ o a0 h_o _ h) cl_CS_107 h_o rfl rfl rfl e_wx_CS_likeliest_23 rfl rfl rfl ⟨by decide, by decide⟩ (fun r18 A19 G20 k21 q22 p23 y24 b25 => ?_)
        have h := p23
        refine wk3 (fun c26 g27 => ?_) (fun c26 => ?_)
        · have h := wfp c26 h
          refine h_blk 28 [(3, vr 0 r18.toNat), (0, vr 8 o), (1, vi a0), (2, vi a1)] [vr 0 r18.toNat] C f_wx_CS_likeliest_26_2 rfl ?_
          refine h_ifnull C e_wx_CS_likeliest_28 ?_
          refine h_blk 32 [(3, vr 0 r18.toNat), (0, vr 8 o), (1, vi a0), (2, vi a1)] [vr 0 r18.toNat] C f_wx_CS_likeliest_31_1 rfl ?_
          refine h_geti C e_wx_CS_likeliest_32 fg_CS_111 g27 rfl rfl rfl (A19 0 r18.toNat 2) rfl ?_
          obtain ⟨c28, h⟩ := wgd h
          refine h_if_ne (tgt := 50) C e_wx_CS_likeliest_35 (by decide) c28 (fun c29 => ?_) (fun c29 => ?_)
          · have h := wfn c29 h
            refine h_blk 53 [(3, vr 0 r18.toNat), (0, vr 8 o), (1, vi a0), (2, vi a1)] [vi 6, vi a1] C f_wx_CS_likeliest_50_2 rfl ?_
            obtain ⟨c30, h⟩ := wgd h
            refine h_icmp_ne (tgt := 64) C e_wx_CS_likeliest_53 (by decide) c30 (by decide) (fun c31 => ?_) (fun c31 => ?_)
            · have h := wfn c31 h
              refine h_blk 67 [(3, vr 0 r18.toNat), (0, vr 8 o), (1, vi a0), (2, vi a1)] [vr 8 o, vi a1, vr 0 r18.toNat] C f_wx_CS_likeliest_64_3 rfl ?_
              refine h_getr4 C e_wx_CS_likeliest_67 fg_CS_39 (y24 _ _ h_o) rfl rfl rfl rfl (fun g32 => ?_)
              obtain ⟨q33, e34, h⟩ := h
              refine w_callV C Rm Y b25 [vi a1, vr 23 ((A19 8 o 11).toNat)] [] (hx_Crowd_spread l D B H0 G20 _ r18.toNat a1 ((A19 8 o 11).toNat) g27 g32 _ _ e34) cl_CS_155 g27 rfl rfl rfl e_wx_CS_likeliest_70 rfl rfl rfl ⟨by decide, by decide⟩ ?_
              rintro _ _ ⟨rfl, rfl⟩
              show HM g D G20 q22 q33.2 73 [(3, vr 0 r18.toNat), (0, vr 8 o), (1, vi a0), (2, vi a1)] []
              refine h_blk 79 [(5, vi 1), (4, vi 0), (3, vr 0 r18.toNat), (0, vr 8 o), (1, vi a0), (2, vi a1)] [] C f_wx_CS_likeliest_73_4 rfl ?_
              refine h_loc [(0, vr 8 o), (4, vi 0), (5, vi 1)] ⟨rfl, rfl, rfl, trivial⟩ ?_
              exact hd_79 _ k21 G20 q22 (fun a τ z => y24 a τ ((fun _ _ z => z) a τ z)) b25 q33.2 o 0 1 ((y24 _ _ h_o)) h
            · have h := wfp c31 h
              refine h_blk 57 [(3, vr 0 r18.toNat), (0, vr 8 o), (1, vi a0), (2, vi a1)] [vr 0 r18.toNat] C f_wx_CS_likeliest_56_1 rfl ?_
              obtain ⟨q35, e36, h⟩ := h
              refine w_callV C Rm Y b25 [] [] (hx_Crowd_likeliestState l D B H0 G20 _ r18.toNat g27 _ _ e36) cl_CS_172 g27 rfl rfl rfl e_wx_CS_likeliest_57 rfl rfl rfl ⟨by decide, by decide⟩ ?_
              rintro _ _ ⟨rfl, rfl⟩
              show HM g D G20 q22 q35.2 60 [(3, vr 0 r18.toNat), (0, vr 8 o), (1, vi a0), (2, vi a1)] [vi q35.1]
              obtain ⟨q37, e38, h⟩ := h
              refine w_callS C Rm Y b25 [vi q35.1] [] (hx_CS_unpacked l D B H0 G20 _ q35.1 _ _ e38) cl_CS_176 e_wx_CS_likeliest_60 rfl rfl rfl ⟨by decide, by decide⟩ ?_
              rintro _ _ ⟨rfl, rfl⟩
              show HM g D G20 q22 q37.2 63 [(3, vr 0 r18.toNat), (0, vr 8 o), (1, vi a0), (2, vi a1)] [vi q37.1]
              exact w_iret C Rm E (fun a τ z => y24 a τ ((fun _ _ z => z) a τ z)) b25 e_wx_CS_likeliest_63 h
          · have h := wfp c29 h
            refine h_blk 39 [(3, vr 0 r18.toNat), (0, vr 8 o), (1, vi a0), (2, vi a1)] [vr 0 r18.toNat] C f_wx_CS_likeliest_38_1 rfl ?_
            refine h_ifnonnull (tgt := 47) C e_wx_CS_likeliest_39 (by decide) ?_
            refine h_blk 49 [(3, vr 0 r18.toNat), (0, vr 8 o), (1, vi a0), (2, vi a1)] [vi (-7)] C f_wx_CS_likeliest_47_1 rfl ?_
            exact w_iret C Rm E (fun a τ z => y24 a τ ((fun _ _ z => z) a τ z)) b25 e_wx_CS_likeliest_49 h
        · have h := wfn (by omega)  h
          refine h_blk 28 [(3, vn), (0, vr 8 o), (1, vi a0), (2, vi a1)] [vn] C f_wx_CS_likeliest_26_2 rfl ?_
          refine wn_ifnull (tgt := 38) C e_wx_CS_likeliest_28 (by decide) ?_
          refine h_blk 39 [(3, vn), (0, vr 8 o), (1, vi a0), (2, vi a1)] [vn] C f_wx_CS_likeliest_38_1 rfl ?_
          refine wn_ifnonnull C e_wx_CS_likeliest_39 ?_
          refine h_blk 49 [(3, vn), (0, vr 8 o), (1, vi a0), (2, vi a1)] [vi (-6)] C f_wx_CS_likeliest_42_2 rfl ?_
          exact w_iret C Rm E (fun a τ z => y24 a τ ((fun _ _ z => z) a τ z)) b25 e_wx_CS_likeliest_49 h
      · have h := wfn c17 h
        refine h_blk 20 [(0, vr 8 o), (1, vi a0), (2, vi a1)] [vi (-2)] C f_wx_CS_likeliest_18_1 rfl ?_
        exact w_iret C Rm E (fun _ _ z => z) wb.rfl' e_wx_CS_likeliest_20 h

def w_CS_apart_103 (c_78 : Nat → tG → mA → Nat → Int → Int → Nat → Int → Int → wQ → Prop) : Nat → Nat → tG → mA → Nat → Int → Int → Nat → Int → Int → Int → Int → wQ → Prop
  | 0, _, _, _, _, _, _, _, _, _, _, _, _ => False
  | n + 1, k, G, A, b0, b2, b3, b4, b5, b7, b8, b10, Q => (if g32 b10 then (if 10 ≤ b10 then (c_78 k G A b0 b2 b3 b4 b5 (b7 + 1) Q) else (if g64 b8 then (if (lc b8 0) ≤ 0 then (c_78 k G A b0 b2 b3 b4 b5 (b7 + 1) Q) else (if (0 ≤ b10 ∧ b10 < ((10 : Nat) : Int)) then (∃ q9, f_CS_isSameRatio A (A 23 ((A 8 b0 12).toNat) b10.toNat) b8 (A 23 ((A 8 b0 11).toNat) b10.toNat) b5 = some q9 ∧ (if g32 q9.1 then (if q9.1 = 0 then (Q 0 q9.2 G k) else (w_CS_apart_103  c_78 n k G q9.2 b0 b2 b3 b4 b5 b7 b8 (b10 + 1) Q)) else False)) else False)) else False)) else False)
def w_CS_apart_78 : Nat → Nat → tG → mA → Nat → Int → Int → Nat → Int → Int → wQ → Prop
  | 0, _, _, _, _, _, _, _, _, _, _ => False
  | n + 1, k, G, A, b0, b2, b3, b4, b5, b7, Q => (if g32 b7 then (if 10 ≤ b7 then (Q 1 A G k) else (∃ q16, f_Crowd_spreadWhere A b4 b2 b7 b3 ((A 8 b0 12).toNat) = some q16 ∧ (w_CS_apart_103  (w_CS_apart_78   n) 20 k G q16.2 b0 b2 b3 b4 b5 b7 q16.1 0 Q))) else False)
def w_CS_apart (k0 : Nat) (G0 : tG) (A : mA) (o : Nat) (a0 : Int) (a1 : Int) (a2 : Int) (Q : wQ) : Prop := (∃ q18, f_CS_isProgram A o a0 = some q18 ∧ (if g32 q18.1 then (if q18.1 = 0 then (Q (-2) q18.2 G0 k0) else (∃ q22, f_CS_isName q18.2 a1 = some q22 ∧ (if g32 q22.1 then (if q22.1 = 0 then (Q (-2) q22.2 G0 k0) else (∃ q26, f_CS_isName q22.2 a2 = some q26 ∧ (if g32 q26.1 then (if q26.1 = 0 then (Q (-2) q26.2 G0 k0) else (w_CS_endOf k0 G0 q26.2 o a0 (fun r30 A31 G32 k33 => (if 0 ≤ r30 then (if g32 (A31 0 r30.toNat 2) then (if (A31 0 r30.toNat 2) = 0 then (Q (-7) A31 G32 k33) else (∃ q42, f_Crowd_weight A31 r30.toNat = some q42 ∧ (∃ q45, f_Crowd_spread q42.2 r30.toNat a2 ((q42.2 8 o 11).toNat) = some q45 ∧ (w_CS_apart_78  20 k33 G32 q45.2 o a1 a2 r30.toNat q42.1 0 Q)))) else False) else (Q (-6) A31 G32 k33))))) else False))) else False))) else False))
theorem f_wx_CS_apart_0_2 : mblkB b_CS_apart [(0, .aload_n 0, vi 0), (1, .iload_n 1, vi 0)] = true := by decide +kernel
theorem e_wx_CS_apart_2 : decode b_CS_apart 2 = .ok (.invokevirtual 94, 3) := by decide +kernel
theorem e_wx_CS_apart_5 : decode b_CS_apart 5 = .ok (.ifCond .eq 17, 3) := by decide +kernel
theorem f_wx_CS_apart_22_1 : mblkB b_CS_apart [(22, .bipush (-2), vi (-2))] = true := by decide +kernel
theorem e_wx_CS_apart_24 : decode b_CS_apart 24 = .ok (.ireturn, 1) := by decide +kernel
theorem f_wx_CS_apart_8_1 : mblkB b_CS_apart [(8, .iload_n 2, vi 0)] = true := by decide +kernel
theorem e_wx_CS_apart_9 : decode b_CS_apart 9 = .ok (.invokestatic 77, 3) := by decide +kernel
theorem e_wx_CS_apart_12 : decode b_CS_apart 12 = .ok (.ifCond .eq 10, 3) := by decide +kernel
theorem f_wx_CS_apart_15_1 : mblkB b_CS_apart [(15, .iload_n 3, vi 0)] = true := by decide +kernel
theorem e_wx_CS_apart_16 : decode b_CS_apart 16 = .ok (.invokestatic 77, 3) := by decide +kernel
theorem e_wx_CS_apart_19 : decode b_CS_apart 19 = .ok (.ifCond .ne 6, 3) := by decide +kernel
theorem f_wx_CS_apart_25_2 : mblkB b_CS_apart [(25, .aload_n 0, vi 0), (26, .iload_n 1, vi 0)] = true := by decide +kernel
theorem e_wx_CS_apart_27 : decode b_CS_apart 27 = .ok (.invokevirtual 107, 3) := by decide +kernel
theorem f_wx_CS_apart_30_2 : mblkB b_CS_apart [(30, .astore 4, vi 0), (32, .aload 4, vi 0)] = true := by decide +kernel
theorem e_wx_CS_apart_34 : decode b_CS_apart 34 = .ok (.ifnull 11, 3) := by decide +kernel
theorem f_wx_CS_apart_37_1 : mblkB b_CS_apart [(37, .aload 4, vi 0)] = true := by decide +kernel
theorem e_wx_CS_apart_39 : decode b_CS_apart 39 = .ok (.getfield 111, 3) := by decide +kernel
theorem e_wx_CS_apart_42 : decode b_CS_apart 42 = .ok (.ifCond .ne 16, 3) := by decide +kernel
theorem f_wx_CS_apart_58_1 : mblkB b_CS_apart [(58, .aload 4, vi 0)] = true := by decide +kernel
theorem e_wx_CS_apart_60 : decode b_CS_apart 60 = .ok (.invokevirtual 145, 3) := by decide +kernel
theorem f_wx_CS_apart_63_4 : mblkB b_CS_apart [(63, .lstore 5, vi 0), (65, .aload 4, vi 0), (67, .iload_n 3, vi 0), (68, .aload_n 0, vi 0)] = true := by decide +kernel
theorem e_wx_CS_apart_69 : decode b_CS_apart 69 = .ok (.getfield 39, 3) := by decide +kernel
theorem e_wx_CS_apart_72 : decode b_CS_apart 72 = .ok (.invokevirtual 155, 3) := by decide +kernel
theorem f_wx_CS_apart_75_2 : mblkB b_CS_apart [(75, .iconst 0, vi 0), (76, .istore 7, vi 0)] = true := by decide +kernel
theorem f_wx_CS_apart_45_1 : mblkB b_CS_apart [(45, .aload 4, vi 0)] = true := by decide +kernel
theorem e_wx_CS_apart_47 : decode b_CS_apart 47 = .ok (.ifnonnull 8, 3) := by decide +kernel
theorem f_wx_CS_apart_55_1 : mblkB b_CS_apart [(55, .bipush (-7), vi (-7))] = true := by decide +kernel
theorem e_wx_CS_apart_57 : decode b_CS_apart 57 = .ok (.ireturn, 1) := by decide +kernel
theorem f_wx_CS_apart_50_2 : mblkB b_CS_apart [(50, .bipush (-6), vi (-6)), (52, .goto 5, vi 57)] = true := by decide +kernel
theorem f_wx_CS_apart_78_2 : mblkB b_CS_apart [(78, .iload 7, vi 0), (80, .bipush 10, vi 10)] = true := by decide +kernel
theorem e_wx_CS_apart_82 : decode b_CS_apart 82 = .ok (.if_icmp .ge 73, 3) := by decide +kernel
theorem f_wx_CS_apart_155_1 : mblkB b_CS_apart [(155, .iconst 1, vi 1)] = true := by decide +kernel
theorem e_wx_CS_apart_156 : decode b_CS_apart 156 = .ok (.ireturn, 1) := by decide +kernel
theorem f_wx_CS_apart_85_5 : mblkB b_CS_apart [(85, .aload 4, vi 0), (87, .iload_n 2, vi 0), (88, .iload 7, vi 0), (90, .iload_n 3, vi 0), (91, .aload_n 0, vi 0)] = true := by decide +kernel
theorem e_wx_CS_apart_92 : decode b_CS_apart 92 = .ok (.getfield 43, 3) := by decide +kernel
theorem e_wx_CS_apart_95 : decode b_CS_apart 95 = .ok (.invokevirtual 179, 3) := by decide +kernel
theorem f_wx_CS_apart_98_3 : mblkB b_CS_apart [(98, .lstore 8, vi 0), (100, .iconst 0, vi 0), (101, .istore 10, vi 0)] = true := by decide +kernel
theorem f_wx_CS_apart_103_2 : mblkB b_CS_apart [(103, .iload 10, vi 0), (105, .bipush 10, vi 10)] = true := by decide +kernel
theorem e_wx_CS_apart_107 : decode b_CS_apart 107 = .ok (.if_icmp .ge 42, 3) := by decide +kernel
theorem f_wx_CS_apart_149_2 : mblkB b_CS_apart [(149, .iinc 7 1, vi 1), (152, .goto (-74), vi 78)] = true := by decide +kernel
theorem f_wx_CS_apart_110_2 : mblkB b_CS_apart [(110, .lload 8, vi 0), (112, .lconst 0, vl 0)] = true := by decide +kernel
theorem e_wx_CS_apart_113 : decode b_CS_apart 113 = .ok (.lcmp, 1) := by decide +kernel
theorem e_wx_CS_apart_114 : decode b_CS_apart 114 = .ok (.ifCond .le 35, 3) := by decide +kernel
theorem f_wx_CS_apart_117_1 : mblkB b_CS_apart [(117, .aload_n 0, vi 0)] = true := by decide +kernel
theorem e_wx_CS_apart_118 : decode b_CS_apart 118 = .ok (.getfield 43, 3) := by decide +kernel
theorem f_wx_CS_apart_121_1 : mblkB b_CS_apart [(121, .iload 10, vi 0)] = true := by decide +kernel
theorem e_wx_CS_apart_123 : decode b_CS_apart 123 = .ok (.laload, 1) := by decide +kernel
theorem f_wx_CS_apart_124_2 : mblkB b_CS_apart [(124, .lload 8, vi 0), (126, .aload_n 0, vi 0)] = true := by decide +kernel
theorem e_wx_CS_apart_127 : decode b_CS_apart 127 = .ok (.getfield 39, 3) := by decide +kernel
theorem f_wx_CS_apart_130_1 : mblkB b_CS_apart [(130, .iload 10, vi 0)] = true := by decide +kernel
theorem e_wx_CS_apart_132 : decode b_CS_apart 132 = .ok (.laload, 1) := by decide +kernel
theorem f_wx_CS_apart_133_1 : mblkB b_CS_apart [(133, .lload 5, vi 0)] = true := by decide +kernel
theorem e_wx_CS_apart_135 : decode b_CS_apart 135 = .ok (.invokestatic 183, 3) := by decide +kernel
theorem e_wx_CS_apart_138 : decode b_CS_apart 138 = .ok (.ifCond .ne 5, 3) := by decide +kernel
theorem f_wx_CS_apart_143_2 : mblkB b_CS_apart [(143, .iinc 10 1, vi 1), (146, .goto (-43), vi 103)] = true := by decide +kernel
theorem f_wx_CS_apart_141_1 : mblkB b_CS_apart [(141, .iconst 0, vi 0)] = true := by decide +kernel
theorem e_wx_CS_apart_142 : decode b_CS_apart 142 = .ok (.ireturn, 1) := by decide +kernel
set_option maxHeartbeats 4000000 in
set_option maxRecDepth 20000 in
theorem wx_CS_apart  : ∀ (l : Launch) (D : va_G) (B : Nat) (H0 : Heap) (G0 : tG) (k0 : Nat) (A : mA) (o : Nat) (a0 : Int) (a1 : Int) (a2 : Int) (h_o : G0 o = some 8)  (Q : wQ), w_CS_apart  k0 G0 A o a0 a1 a2 Q → wMet l D B H0 G0 k0 y_CS_apart b_CS_apart 11 (some .int) 465 15134 1 [vr 8 o, vi a0, vi a1, vi a2] A Q := by
  intro l D B H0 G0 k0 A o a0 a1 a2 h_o Q h
  refine w_met (by decide) rfl (fun g q0 C Rm Y E => ?_)
  have hd_103 : ∀ (c_78 : Nat → tG → mA → Nat → Int → Int → Nat → Int → Int → wQ → Prop) (hc_78 : ∀ (k : Nat) (G : tG) (q : Nat × Nat) (hgo : ∀ a τ, G0 a = some τ → G a = some τ) (hb : wb q0 k0 q k) (A : mA) (b0 : Nat) (b2 : Int) (b3 : Int) (b4 : Nat) (b5 : Int) (b7 : Int) , G b0 = some 8 → G b4 = some 0 → c_78 k G A b0 b2 b3 b4 b5 b7 Q → HM g D G q A 78 [(0, vr 8 b0), (2, vi b2), (3, vi b3), (4, vr 0 b4), (5, vl b5), (7, vi b7)] []) (n : Nat) (k : Nat) (G : tG) (q : Nat × Nat) (hgo : ∀ a τ, G0 a = some τ → G a = some τ) (hb : wb q0 k0 q k) (A : mA) (b0 : Nat) (b2 : Int) (b3 : Int) (b4 : Nat) (b5 : Int) (b7 : Int) (b8 : Int) (b10 : Int) , G b0 = some 8 → G b4 = some 0 → w_CS_apart_103  c_78 n k G A b0 b2 b3 b4 b5 b7 b8 b10 Q → HM g D G q A 103 [(0, vr 8 b0), (2, vi b2), (3, vi b3), (4, vr 0 b4), (5, vl b5), (7, vi b7), (8, vl b8), (10, vi b10)] [] := by
    intro c_78 hc_78 n
    induction n with
    | zero => intro k G q hgo hb A b0 b2 b3 b4 b5 b7 b8 b10 h_b0 h_b4 h; exact h.elim
    | succ n ih =>
      intro k G q hgo hb A b0 b2 b3 b4 b5 b7 b8 b10 h_b0 h_b4 h
      unfold w_CS_apart_103 at h
      refine h_blk 107 [(0, vr 8 b0), (2, vi b2), (3, vi b3), (4, vr 0 b4), (5, vl b5), (7, vi b7), (8, vl b8), (10, vi b10)] [vi 10, vi b10] C f_wx_CS_apart_103_2 rfl ?_
      obtain ⟨c1, h⟩ := wgd h
      refine h_icmp_ge (tgt := 149) C e_wx_CS_apart_107 (by decide) c1 (by decide) (fun c2 => ?_) (fun c2 => ?_)
      · have h := wfp c2 h
        refine h_blk 78 [(7, vi (b7 + 1)), (0, vr 8 b0), (2, vi b2), (3, vi b3), (4, vr 0 b4), (5, vl b5), (8, vl b8), (10, vi b10)] [] C f_wx_CS_apart_149_2 rfl ?_
        refine h_loc [(0, vr 8 b0), (2, vi b2), (3, vi b3), (4, vr 0 b4), (5, vl b5), (7, vi (b7 + 1))] ⟨rfl, rfl, rfl, rfl, rfl, rfl, trivial⟩ ?_
        exact hc_78 k G q hgo hb A b0 b2 b3 b4 b5 (b7 + 1) (h_b0) (h_b4) h
      · have h := wfn c2 h
        refine h_blk 113 [(0, vr 8 b0), (2, vi b2), (3, vi b3), (4, vr 0 b4), (5, vl b5), (7, vi b7), (8, vl b8), (10, vi b10)] [vl 0, vl b8] C f_wx_CS_apart_110_2 rfl ?_
        obtain ⟨c3, h⟩ := wgd h
        refine h_lcmp C e_wx_CS_apart_113 c3 (by decide) (fun z4 hz4 => ?_)
        obtain rfl : z4 = lc b8 0 := lc_of hz4
        refine h_if_le (tgt := 149) C e_wx_CS_apart_114 (by decide) lc_r (fun c5 => ?_) (fun c5 => ?_)
        · have h := wfp c5 h
          refine h_blk 78 [(7, vi (b7 + 1)), (0, vr 8 b0), (2, vi b2), (3, vi b3), (4, vr 0 b4), (5, vl b5), (8, vl b8), (10, vi b10)] [] C f_wx_CS_apart_149_2 rfl ?_
          refine h_loc [(0, vr 8 b0), (2, vi b2), (3, vi b3), (4, vr 0 b4), (5, vl b5), (7, vi (b7 + 1))] ⟨rfl, rfl, rfl, rfl, rfl, rfl, trivial⟩ ?_
          exact hc_78 k G q hgo hb A b0 b2 b3 b4 b5 (b7 + 1) (h_b0) (h_b4) h
        · have h := wfn c5 h
          refine h_blk 118 [(0, vr 8 b0), (2, vi b2), (3, vi b3), (4, vr 0 b4), (5, vl b5), (7, vi b7), (8, vl b8), (10, vi b10)] [vr 8 b0] C f_wx_CS_apart_117_1 rfl ?_
          refine h_getr4 C e_wx_CS_apart_118 fg_CS_43 h_b0 rfl rfl rfl rfl (fun g6 => ?_)
          refine h_blk 123 [(0, vr 8 b0), (2, vi b2), (3, vi b3), (4, vr 0 b4), (5, vl b5), (7, vi b7), (8, vl b8), (10, vi b10)] [vi b10, vr 23 ((A 8 b0 12).toNat)] C f_wx_CS_apart_121_1 rfl ?_
          obtain ⟨c7, h⟩ := wgd h
          refine h_lald C e_wx_CS_apart_123 g6 rfl rfl (by decide) c7.1 c7.2 (A 23 ((A 8 b0 12).toNat) b10.toNat) rfl ?_
          refine h_blk 127 [(0, vr 8 b0), (2, vi b2), (3, vi b3), (4, vr 0 b4), (5, vl b5), (7, vi b7), (8, vl b8), (10, vi b10)] [vr 8 b0, vl b8, vl (A 23 ((A 8 b0 12).toNat) b10.toNat)] C f_wx_CS_apart_124_2 rfl ?_
          refine h_getr4 C e_wx_CS_apart_127 fg_CS_39 h_b0 rfl rfl rfl rfl (fun g8 => ?_)
          refine h_blk 132 [(0, vr 8 b0), (2, vi b2), (3, vi b3), (4, vr 0 b4), (5, vl b5), (7, vi b7), (8, vl b8), (10, vi b10)] [vi b10, vr 23 ((A 8 b0 11).toNat), vl b8, vl (A 23 ((A 8 b0 12).toNat) b10.toNat)] C f_wx_CS_apart_130_1 rfl ?_
          refine h_lald C e_wx_CS_apart_132 g8 rfl rfl (by decide) c7.1 c7.2 (A 23 ((A 8 b0 11).toNat) b10.toNat) rfl ?_
          refine h_blk 135 [(0, vr 8 b0), (2, vi b2), (3, vi b3), (4, vr 0 b4), (5, vl b5), (7, vi b7), (8, vl b8), (10, vi b10)] [vl b5, vl (A 23 ((A 8 b0 11).toNat) b10.toNat), vl b8, vl (A 23 ((A 8 b0 12).toNat) b10.toNat)] C f_wx_CS_apart_133_1 rfl ?_
          obtain ⟨q9, e10, h⟩ := h
          refine w_callS C Rm Y hb [vl (A 23 ((A 8 b0 12).toNat) b10.toNat), vl b8, vl (A 23 ((A 8 b0 11).toNat) b10.toNat), vl b5] [] (hx_CS_isSameRatio l D B H0 G _ (A 23 ((A 8 b0 12).toNat) b10.toNat) b8 (A 23 ((A 8 b0 11).toNat) b10.toNat) b5 _ _ e10) cl_CS_183 e_wx_CS_apart_135 rfl rfl rfl ⟨by decide, by decide⟩ ?_
          rintro _ _ ⟨rfl, rfl⟩
          show HM g D G q q9.2 138 [(0, vr 8 b0), (2, vi b2), (3, vi b3), (4, vr 0 b4), (5, vl b5), (7, vi b7), (8, vl b8), (10, vi b10)] [vi q9.1]
          obtain ⟨c11, h⟩ := wgd h
          refine h_if_ne (tgt := 143) C e_wx_CS_apart_138 (by decide) c11 (fun c12 => ?_) (fun c12 => ?_)
          · have h := wfn c12 h
            refine h_blk 103 [(10, vi (b10 + 1)), (0, vr 8 b0), (2, vi b2), (3, vi b3), (4, vr 0 b4), (5, vl b5), (7, vi b7), (8, vl b8)] [] C f_wx_CS_apart_143_2 rfl ?_
            refine h_loc [(0, vr 8 b0), (2, vi b2), (3, vi b3), (4, vr 0 b4), (5, vl b5), (7, vi b7), (8, vl b8), (10, vi (b10 + 1))] ⟨rfl, rfl, rfl, rfl, rfl, rfl, rfl, rfl, trivial⟩ ?_
            exact ih k G q hgo hb q9.2 b0 b2 b3 b4 b5 b7 b8 (b10 + 1) (h_b0) (h_b4) h
          · have h := wfp c12 h
            refine h_blk 142 [(0, vr 8 b0), (2, vi b2), (3, vi b3), (4, vr 0 b4), (5, vl b5), (7, vi b7), (8, vl b8), (10, vi b10)] [vi 0] C f_wx_CS_apart_141_1 rfl ?_
            exact w_iret C Rm E hgo hb e_wx_CS_apart_142 h
  have hd_78 : ∀ (n : Nat) (k : Nat) (G : tG) (q : Nat × Nat) (hgo : ∀ a τ, G0 a = some τ → G a = some τ) (hb : wb q0 k0 q k) (A : mA) (b0 : Nat) (b2 : Int) (b3 : Int) (b4 : Nat) (b5 : Int) (b7 : Int) , G b0 = some 8 → G b4 = some 0 → w_CS_apart_78   n k G A b0 b2 b3 b4 b5 b7 Q → HM g D G q A 78 [(0, vr 8 b0), (2, vi b2), (3, vi b3), (4, vr 0 b4), (5, vl b5), (7, vi b7)] [] := by
    intro  n
    induction n with
    | zero => intro k G q hgo hb A b0 b2 b3 b4 b5 b7 h_b0 h_b4 h; exact h.elim
    | succ n ih =>
      intro k G q hgo hb A b0 b2 b3 b4 b5 b7 h_b0 h_b4 h
      unfold w_CS_apart_78 at h
      refine h_blk 82 [(0, vr 8 b0), (2, vi b2), (3, vi b3), (4, vr 0 b4), (5, vl b5), (7, vi b7)] [vi 10, vi b7] C f_wx_CS_apart_78_2 rfl ?_
      obtain ⟨c13, h⟩ := wgd h
      refine h_icmp_ge (tgt := 155) C e_wx_CS_apart_82 (by decide) c13 (by decide) (fun c14 => ?_) (fun c14 => ?_)
      · have h := wfp c14 h
        refine h_blk 156 [(0, vr 8 b0), (2, vi b2), (3, vi b3), (4, vr 0 b4), (5, vl b5), (7, vi b7)] [vi 1] C f_wx_CS_apart_155_1 rfl ?_
        exact w_iret C Rm E hgo hb e_wx_CS_apart_156 h
      · have h := wfn c14 h
        refine h_blk 92 [(0, vr 8 b0), (2, vi b2), (3, vi b3), (4, vr 0 b4), (5, vl b5), (7, vi b7)] [vr 8 b0, vi b3, vi b7, vi b2, vr 0 b4] C f_wx_CS_apart_85_5 rfl ?_
        refine h_getr4 C e_wx_CS_apart_92 fg_CS_43 h_b0 rfl rfl rfl rfl (fun g15 => ?_)
        obtain ⟨q16, e17, h⟩ := h
        refine w_callV C Rm Y hb [vi b2, vi b7, vi b3, vr 23 ((A 8 b0 12).toNat)] [] (hx_Crowd_spreadWhere l D B H0 G _ b4 b2 b7 b3 ((A 8 b0 12).toNat) h_b4 g15 _ _ e17) cl_CS_179 h_b4 rfl rfl rfl e_wx_CS_apart_95 rfl rfl rfl ⟨by decide, by decide⟩ ?_
        rintro _ _ ⟨rfl, rfl⟩
        show HM g D G q q16.2 98 [(0, vr 8 b0), (2, vi b2), (3, vi b3), (4, vr 0 b4), (5, vl b5), (7, vi b7)] [vl q16.1]
        refine h_blk 103 [(10, vi 0), (8, vl q16.1), (0, vr 8 b0), (2, vi b2), (3, vi b3), (4, vr 0 b4), (5, vl b5), (7, vi b7)] [] C f_wx_CS_apart_98_3 rfl ?_
        refine h_loc [(0, vr 8 b0), (2, vi b2), (3, vi b3), (4, vr 0 b4), (5, vl b5), (7, vi b7), (8, vl q16.1), (10, vi 0)] ⟨rfl, rfl, rfl, rfl, rfl, rfl, rfl, rfl, trivial⟩ ?_
        exact hd_103 (w_CS_apart_78   n) ih _ k G q hgo hb q16.2 b0 b2 b3 b4 b5 b7 q16.1 0 (h_b0) (h_b4) h
  show HM g D G0 q0 A 0 [(0, vr 8 o), (1, vi a0), (2, vi a1), (3, vi a2)] []
  unfold w_CS_apart at h
  refine h_blk 2 [(0, vr 8 o), (1, vi a0), (2, vi a1), (3, vi a2)] [vi a0, vr 8 o] C f_wx_CS_apart_0_2 rfl ?_
  obtain ⟨q18, e19, h⟩ := h
  refine w_callV C Rm Y wb.rfl' [vi a0] [] (hx_CS_isProgram l D B H0 G0 _ o a0 h_o _ _ e19) cl_CS_94 h_o rfl rfl rfl e_wx_CS_apart_2 rfl rfl rfl ⟨by decide, by decide⟩ ?_
  rintro _ _ ⟨rfl, rfl⟩
  show HM g D G0 q0 q18.2 5 [(0, vr 8 o), (1, vi a0), (2, vi a1), (3, vi a2)] [vi q18.1]
  obtain ⟨c20, h⟩ := wgd h
  refine h_if_eq (tgt := 22) C e_wx_CS_apart_5 (by decide) c20 (fun c21 => ?_) (fun c21 => ?_)
  · have h := wfp c21 h
    refine h_blk 24 [(0, vr 8 o), (1, vi a0), (2, vi a1), (3, vi a2)] [vi (-2)] C f_wx_CS_apart_22_1 rfl ?_
    exact w_iret C Rm E (fun _ _ z => z) wb.rfl' e_wx_CS_apart_24 h
  · have h := wfn c21 h
    refine h_blk 9 [(0, vr 8 o), (1, vi a0), (2, vi a1), (3, vi a2)] [vi a1] C f_wx_CS_apart_8_1 rfl ?_
    obtain ⟨q22, e23, h⟩ := h
    refine w_callS C Rm Y wb.rfl' [vi a1] [] (hx_CS_isName l D B H0 G0 _ a1 _ _ e23) cl_CS_77 e_wx_CS_apart_9 rfl rfl rfl ⟨by decide, by decide⟩ ?_
    rintro _ _ ⟨rfl, rfl⟩
    show HM g D G0 q0 q22.2 12 [(0, vr 8 o), (1, vi a0), (2, vi a1), (3, vi a2)] [vi q22.1]
    obtain ⟨c24, h⟩ := wgd h
    refine h_if_eq (tgt := 22) C e_wx_CS_apart_12 (by decide) c24 (fun c25 => ?_) (fun c25 => ?_)
    · have h := wfp c25 h
      refine h_blk 24 [(0, vr 8 o), (1, vi a0), (2, vi a1), (3, vi a2)] [vi (-2)] C f_wx_CS_apart_22_1 rfl ?_
      exact w_iret C Rm E (fun _ _ z => z) wb.rfl' e_wx_CS_apart_24 h
    · have h := wfn c25 h
      refine h_blk 16 [(0, vr 8 o), (1, vi a0), (2, vi a1), (3, vi a2)] [vi a2] C f_wx_CS_apart_15_1 rfl ?_
      obtain ⟨q26, e27, h⟩ := h
      refine w_callS C Rm Y wb.rfl' [vi a2] [] (hx_CS_isName l D B H0 G0 _ a2 _ _ e27) cl_CS_77 e_wx_CS_apart_16 rfl rfl rfl ⟨by decide, by decide⟩ ?_
      rintro _ _ ⟨rfl, rfl⟩
      show HM g D G0 q0 q26.2 19 [(0, vr 8 o), (1, vi a0), (2, vi a1), (3, vi a2)] [vi q26.1]
      obtain ⟨c28, h⟩ := wgd h
      refine h_if_ne (tgt := 25) C e_wx_CS_apart_19 (by decide) c28 (fun c29 => ?_) (fun c29 => ?_)
      · have h := wfn c29 h
        refine h_blk 27 [(0, vr 8 o), (1, vi a0), (2, vi a1), (3, vi a2)] [vi a0, vr 8 o] C f_wx_CS_apart_25_2 rfl ?_
        refine w_wV C Rm Y wb.rfl' [vi a0] [] (wx_CS_endOf l D B H0 G0 k0 _ o a0 h_o _ h) cl_CS_107 h_o rfl rfl rfl e_wx_CS_apart_27 rfl rfl rfl ⟨by decide, by decide⟩ (fun r30 A31 G32 k33 q34 p35 y36 b37 => ?_)
        have h := p35
        refine wk3 (fun c38 g39 => ?_) (fun c38 => ?_)
        · have h := wfp c38 h
          refine h_blk 34 [(4, vr 0 r30.toNat), (0, vr 8 o), (1, vi a0), (2, vi a1), (3, vi a2)] [vr 0 r30.toNat] C f_wx_CS_apart_30_2 rfl ?_
          refine h_ifnull C e_wx_CS_apart_34 ?_
          refine h_blk 39 [(4, vr 0 r30.toNat), (0, vr 8 o), (1, vi a0), (2, vi a1), (3, vi a2)] [vr 0 r30.toNat] C f_wx_CS_apart_37_1 rfl ?_
          refine h_geti C e_wx_CS_apart_39 fg_CS_111 g39 rfl rfl rfl (A31 0 r30.toNat 2) rfl ?_
          obtain ⟨c40, h⟩ := wgd h
          refine h_if_ne (tgt := 58) C e_wx_CS_apart_42 (by decide) c40 (fun c41 => ?_) (fun c41 => ?_)
          · have h := wfn c41 h
            refine h_blk 60 [(4, vr 0 r30.toNat), (0, vr 8 o), (1, vi a0), (2, vi a1), (3, vi a2)] [vr 0 r30.toNat] C f_wx_CS_apart_58_1 rfl ?_
            obtain ⟨q42, e43, h⟩ := h
            refine w_callV C Rm Y b37 [] [] (hx_Crowd_weight l D B H0 G32 _ r30.toNat g39 _ _ e43) cl_CS_145 g39 rfl rfl rfl e_wx_CS_apart_60 rfl rfl rfl ⟨by decide, by decide⟩ ?_
            rintro _ _ ⟨rfl, rfl⟩
            show HM g D G32 q34 q42.2 63 [(4, vr 0 r30.toNat), (0, vr 8 o), (1, vi a0), (2, vi a1), (3, vi a2)] [vl q42.1]
            refine h_blk 69 [(5, vl q42.1), (4, vr 0 r30.toNat), (0, vr 8 o), (1, vi a0), (2, vi a1), (3, vi a2)] [vr 8 o, vi a2, vr 0 r30.toNat] C f_wx_CS_apart_63_4 rfl ?_
            refine h_getr4 C e_wx_CS_apart_69 fg_CS_39 (y36 _ _ h_o) rfl rfl rfl rfl (fun g44 => ?_)
            obtain ⟨q45, e46, h⟩ := h
            refine w_callV C Rm Y b37 [vi a2, vr 23 ((q42.2 8 o 11).toNat)] [] (hx_Crowd_spread l D B H0 G32 _ r30.toNat a2 ((q42.2 8 o 11).toNat) g39 g44 _ _ e46) cl_CS_155 g39 rfl rfl rfl e_wx_CS_apart_72 rfl rfl rfl ⟨by decide, by decide⟩ ?_
            rintro _ _ ⟨rfl, rfl⟩
            show HM g D G32 q34 q45.2 75 [(5, vl q42.1), (4, vr 0 r30.toNat), (0, vr 8 o), (1, vi a0), (2, vi a1), (3, vi a2)] []
            refine h_blk 78 [(7, vi 0), (5, vl q42.1), (4, vr 0 r30.toNat), (0, vr 8 o), (1, vi a0), (2, vi a1), (3, vi a2)] [] C f_wx_CS_apart_75_2 rfl ?_
            refine h_loc [(0, vr 8 o), (2, vi a1), (3, vi a2), (4, vr 0 r30.toNat), (5, vl q42.1), (7, vi 0)] ⟨rfl, rfl, rfl, rfl, rfl, rfl, trivial⟩ ?_
            exact hd_78 _ k33 G32 q34 (fun a τ z => y36 a τ ((fun _ _ z => z) a τ z)) b37 q45.2 o a1 a2 r30.toNat q42.1 0 ((y36 _ _ h_o)) (g39) h
          · have h := wfp c41 h
            refine h_blk 47 [(4, vr 0 r30.toNat), (0, vr 8 o), (1, vi a0), (2, vi a1), (3, vi a2)] [vr 0 r30.toNat] C f_wx_CS_apart_45_1 rfl ?_
            refine h_ifnonnull (tgt := 55) C e_wx_CS_apart_47 (by decide) ?_
            refine h_blk 57 [(4, vr 0 r30.toNat), (0, vr 8 o), (1, vi a0), (2, vi a1), (3, vi a2)] [vi (-7)] C f_wx_CS_apart_55_1 rfl ?_
            exact w_iret C Rm E (fun a τ z => y36 a τ ((fun _ _ z => z) a τ z)) b37 e_wx_CS_apart_57 h
        · have h := wfn (by omega)  h
          refine h_blk 34 [(4, vn), (0, vr 8 o), (1, vi a0), (2, vi a1), (3, vi a2)] [vn] C f_wx_CS_apart_30_2 rfl ?_
          refine wn_ifnull (tgt := 45) C e_wx_CS_apart_34 (by decide) ?_
          refine h_blk 47 [(4, vn), (0, vr 8 o), (1, vi a0), (2, vi a1), (3, vi a2)] [vn] C f_wx_CS_apart_45_1 rfl ?_
          refine wn_ifnonnull C e_wx_CS_apart_47 ?_
          refine h_blk 57 [(4, vn), (0, vr 8 o), (1, vi a0), (2, vi a1), (3, vi a2)] [vi (-6)] C f_wx_CS_apart_50_2 rfl ?_
          exact w_iret C Rm E (fun a τ z => y36 a τ ((fun _ _ z => z) a τ z)) b37 e_wx_CS_apart_57 h
      · have h := wfp c29 h
        refine h_blk 24 [(0, vr 8 o), (1, vi a0), (2, vi a1), (3, vi a2)] [vi (-2)] C f_wx_CS_apart_22_1 rfl ?_
        exact w_iret C Rm E (fun _ _ z => z) wb.rfl' e_wx_CS_apart_24 h

def w_CS_peak (k0 : Nat) (G0 : tG) (A : mA) (o : Nat) (a0 : Int) (a1 : Int) (Q : wQ) : Prop := (∃ q1, f_CS_isProgram A o a0 = some q1 ∧ (if g32 q1.1 then (if q1.1 = 0 then (Q (-2) q1.2 G0 k0) else (if g32 a1 then (if a1 = (-1) then (if (0 ≤ a0 ∧ a0 < ((6 : Nat) : Int)) then (if 0 ≤ (q1.2 21 ((q1.2 8 o 2).toNat) a0.toNat) then (w_Walk_mostAtOnce k0 G0 q1.2 ((q1.2 8 o 10).toNat) ((q1.2 21 ((q1.2 8 o 2).toNat) a0.toNat).toNat) (q1.2 8 o 4) a1 (fun r12 A13 G14 k15 => (Q r12 A13 G14 k15))) else False) else False) else (∃ q20, f_CS_areNames q1.2 a1 = some q20 ∧ (if g32 q20.1 then (if q20.1 = 0 then (Q (-2) q20.2 G0 k0) else (if (0 ≤ a0 ∧ a0 < ((6 : Nat) : Int)) then (if 0 ≤ (q20.2 21 ((q20.2 8 o 2).toNat) a0.toNat) then (w_Walk_mostAtOnce k0 G0 q20.2 ((q20.2 8 o 10).toNat) ((q20.2 21 ((q20.2 8 o 2).toNat) a0.toNat).toNat) (q20.2 8 o 4) a1 (fun r29 A30 G31 k32 => (Q r29 A30 G31 k32))) else False) else False)) else False))) else False)) else False))
theorem f_wx_CS_peak_0_2 : mblkB b_CS_peak [(0, .aload_n 0, vi 0), (1, .iload_n 1, vi 0)] = true := by decide +kernel
theorem e_wx_CS_peak_2 : decode b_CS_peak 2 = .ok (.invokevirtual 94, 3) := by decide +kernel
theorem e_wx_CS_peak_5 : decode b_CS_peak 5 = .ok (.ifCond .eq 15, 3) := by decide +kernel
theorem f_wx_CS_peak_20_1 : mblkB b_CS_peak [(20, .bipush (-2), vi (-2))] = true := by decide +kernel
theorem e_wx_CS_peak_22 : decode b_CS_peak 22 = .ok (.ireturn, 1) := by decide +kernel
theorem f_wx_CS_peak_8_2 : mblkB b_CS_peak [(8, .iload_n 2, vi 0), (9, .iconst (-1), vi (-1))] = true := by decide +kernel
theorem e_wx_CS_peak_10 : decode b_CS_peak 10 = .ok (.if_icmp .eq 13, 3) := by decide +kernel
theorem f_wx_CS_peak_23_1 : mblkB b_CS_peak [(23, .aload_n 0, vi 0)] = true := by decide +kernel
theorem e_wx_CS_peak_24 : decode b_CS_peak 24 = .ok (.getfield 35, 3) := by decide +kernel
theorem f_wx_CS_peak_27_1 : mblkB b_CS_peak [(27, .aload_n 0, vi 0)] = true := by decide +kernel
theorem e_wx_CS_peak_28 : decode b_CS_peak 28 = .ok (.getfield 15, 3) := by decide +kernel
theorem f_wx_CS_peak_31_1 : mblkB b_CS_peak [(31, .iload_n 1, vi 0)] = true := by decide +kernel
theorem e_wx_CS_peak_32 : decode b_CS_peak 32 = .ok (.aaload, 1) := by decide +kernel
theorem f_wx_CS_peak_33_1 : mblkB b_CS_peak [(33, .aload_n 0, vi 0)] = true := by decide +kernel
theorem e_wx_CS_peak_34 : decode b_CS_peak 34 = .ok (.getfield 83, 3) := by decide +kernel
theorem f_wx_CS_peak_37_1 : mblkB b_CS_peak [(37, .iload_n 2, vi 0)] = true := by decide +kernel
theorem e_wx_CS_peak_38 : decode b_CS_peak 38 = .ok (.invokevirtual 193, 3) := by decide +kernel
theorem e_wx_CS_peak_41 : decode b_CS_peak 41 = .ok (.ireturn, 1) := by decide +kernel
theorem f_wx_CS_peak_13_1 : mblkB b_CS_peak [(13, .iload_n 2, vi 0)] = true := by decide +kernel
theorem e_wx_CS_peak_14 : decode b_CS_peak 14 = .ok (.invokestatic 187, 3) := by decide +kernel
theorem e_wx_CS_peak_17 : decode b_CS_peak 17 = .ok (.ifCond .ne 6, 3) := by decide +kernel
set_option maxHeartbeats 4000000 in
set_option maxRecDepth 20000 in
theorem wx_CS_peak  : ∀ (l : Launch) (D : va_G) (B : Nat) (H0 : Heap) (G0 : tG) (k0 : Nat) (A : mA) (o : Nat) (a0 : Int) (a1 : Int) (h_o : G0 o = some 8)  (Q : wQ), w_CS_peak  k0 G0 A o a0 a1 Q → wMet l D B H0 G0 k0 y_CS_peak b_CS_peak 3 (some .int) 465 15138 1 [vr 8 o, vi a0, vi a1] A Q := by
  intro l D B H0 G0 k0 A o a0 a1 h_o Q h
  refine w_met (by decide) rfl (fun g q0 C Rm Y E => ?_)
  show HM g D G0 q0 A 0 [(0, vr 8 o), (1, vi a0), (2, vi a1)] []
  unfold w_CS_peak at h
  refine h_blk 2 [(0, vr 8 o), (1, vi a0), (2, vi a1)] [vi a0, vr 8 o] C f_wx_CS_peak_0_2 rfl ?_
  obtain ⟨q1, e2, h⟩ := h
  refine w_callV C Rm Y wb.rfl' [vi a0] [] (hx_CS_isProgram l D B H0 G0 _ o a0 h_o _ _ e2) cl_CS_94 h_o rfl rfl rfl e_wx_CS_peak_2 rfl rfl rfl ⟨by decide, by decide⟩ ?_
  rintro _ _ ⟨rfl, rfl⟩
  show HM g D G0 q0 q1.2 5 [(0, vr 8 o), (1, vi a0), (2, vi a1)] [vi q1.1]
  obtain ⟨c3, h⟩ := wgd h
  refine h_if_eq (tgt := 20) C e_wx_CS_peak_5 (by decide) c3 (fun c4 => ?_) (fun c4 => ?_)
  · have h := wfp c4 h
    refine h_blk 22 [(0, vr 8 o), (1, vi a0), (2, vi a1)] [vi (-2)] C f_wx_CS_peak_20_1 rfl ?_
    exact w_iret C Rm E (fun _ _ z => z) wb.rfl' e_wx_CS_peak_22 h
  · have h := wfn c4 h
    refine h_blk 10 [(0, vr 8 o), (1, vi a0), (2, vi a1)] [vi (-1), vi a1] C f_wx_CS_peak_8_2 rfl ?_
    obtain ⟨c5, h⟩ := wgd h
    refine h_icmp_eq (tgt := 23) C e_wx_CS_peak_10 (by decide) c5 (by decide) (fun c6 => ?_) (fun c6 => ?_)
    · have h := wfp c6 h
      refine h_blk 24 [(0, vr 8 o), (1, vi a0), (2, vi a1)] [vr 8 o] C f_wx_CS_peak_23_1 rfl ?_
      refine h_getr4 C e_wx_CS_peak_24 fg_CS_35 h_o rfl rfl rfl rfl (fun g7 => ?_)
      refine h_blk 28 [(0, vr 8 o), (1, vi a0), (2, vi a1)] [vr 8 o, vr 7 ((q1.2 8 o 10).toNat)] C f_wx_CS_peak_27_1 rfl ?_
      refine h_getr4 C e_wx_CS_peak_28 fg_CS_15 h_o rfl rfl rfl rfl (fun g8 => ?_)
      refine h_blk 32 [(0, vr 8 o), (1, vi a0), (2, vi a1)] [vi a0, vr 21 ((q1.2 8 o 2).toNat), vr 7 ((q1.2 8 o 10).toNat)] C f_wx_CS_peak_31_1 rfl ?_
      obtain ⟨c9, h⟩ := wgd h
      obtain ⟨c10, h⟩ := wgd h
      refine h_aald5 C e_wx_CS_peak_32 rfl rfl g8 rfl rfl rfl rfl (by decide) c9.1 c9.2 c10 (fun g11 => ?_)
      refine h_blk 34 [(0, vr 8 o), (1, vi a0), (2, vi a1)] [vr 8 o, vr 2 ((q1.2 21 ((q1.2 8 o 2).toNat) a0.toNat).toNat), vr 7 ((q1.2 8 o 10).toNat)] C f_wx_CS_peak_33_1 rfl ?_
      refine h_geti C e_wx_CS_peak_34 fg_CS_83 h_o rfl rfl rfl (q1.2 8 o 4) rfl ?_
      refine h_blk 38 [(0, vr 8 o), (1, vi a0), (2, vi a1)] [vi a1, vi (q1.2 8 o 4), vr 2 ((q1.2 21 ((q1.2 8 o 2).toNat) a0.toNat).toNat), vr 7 ((q1.2 8 o 10).toNat)] C f_wx_CS_peak_37_1 rfl ?_
      refine w_wV C Rm Y wb.rfl' [vr 2 ((q1.2 21 ((q1.2 8 o 2).toNat) a0.toNat).toNat), vi (q1.2 8 o 4), vi a1] [] (wx_Walk_mostAtOnce l D B H0 G0 k0 _ ((q1.2 8 o 10).toNat) ((q1.2 21 ((q1.2 8 o 2).toNat) a0.toNat).toNat) (q1.2 8 o 4) a1 g7 g11 _ h) cl_CS_193 g7 rfl rfl rfl e_wx_CS_peak_38 rfl rfl rfl ⟨by decide, by decide⟩ (fun r12 A13 G14 k15 q16 p17 y18 b19 => ?_)
      have h := p17
      refine wk1 ?_
      exact w_iret C Rm E (fun a τ z => y18 a τ ((fun _ _ z => z) a τ z)) b19 e_wx_CS_peak_41 h
    · have h := wfn c6 h
      refine h_blk 14 [(0, vr 8 o), (1, vi a0), (2, vi a1)] [vi a1] C f_wx_CS_peak_13_1 rfl ?_
      obtain ⟨q20, e21, h⟩ := h
      refine w_callS C Rm Y wb.rfl' [vi a1] [] (hx_CS_areNames l D B H0 G0 _ a1 _ _ e21) cl_CS_187 e_wx_CS_peak_14 rfl rfl rfl ⟨by decide, by decide⟩ ?_
      rintro _ _ ⟨rfl, rfl⟩
      show HM g D G0 q0 q20.2 17 [(0, vr 8 o), (1, vi a0), (2, vi a1)] [vi q20.1]
      obtain ⟨c22, h⟩ := wgd h
      refine h_if_ne (tgt := 23) C e_wx_CS_peak_17 (by decide) c22 (fun c23 => ?_) (fun c23 => ?_)
      · have h := wfn c23 h
        refine h_blk 24 [(0, vr 8 o), (1, vi a0), (2, vi a1)] [vr 8 o] C f_wx_CS_peak_23_1 rfl ?_
        refine h_getr4 C e_wx_CS_peak_24 fg_CS_35 h_o rfl rfl rfl rfl (fun g24 => ?_)
        refine h_blk 28 [(0, vr 8 o), (1, vi a0), (2, vi a1)] [vr 8 o, vr 7 ((q20.2 8 o 10).toNat)] C f_wx_CS_peak_27_1 rfl ?_
        refine h_getr4 C e_wx_CS_peak_28 fg_CS_15 h_o rfl rfl rfl rfl (fun g25 => ?_)
        refine h_blk 32 [(0, vr 8 o), (1, vi a0), (2, vi a1)] [vi a0, vr 21 ((q20.2 8 o 2).toNat), vr 7 ((q20.2 8 o 10).toNat)] C f_wx_CS_peak_31_1 rfl ?_
        obtain ⟨c26, h⟩ := wgd h
        obtain ⟨c27, h⟩ := wgd h
        refine h_aald5 C e_wx_CS_peak_32 rfl rfl g25 rfl rfl rfl rfl (by decide) c26.1 c26.2 c27 (fun g28 => ?_)
        refine h_blk 34 [(0, vr 8 o), (1, vi a0), (2, vi a1)] [vr 8 o, vr 2 ((q20.2 21 ((q20.2 8 o 2).toNat) a0.toNat).toNat), vr 7 ((q20.2 8 o 10).toNat)] C f_wx_CS_peak_33_1 rfl ?_
        refine h_geti C e_wx_CS_peak_34 fg_CS_83 h_o rfl rfl rfl (q20.2 8 o 4) rfl ?_
        refine h_blk 38 [(0, vr 8 o), (1, vi a0), (2, vi a1)] [vi a1, vi (q20.2 8 o 4), vr 2 ((q20.2 21 ((q20.2 8 o 2).toNat) a0.toNat).toNat), vr 7 ((q20.2 8 o 10).toNat)] C f_wx_CS_peak_37_1 rfl ?_
        refine w_wV C Rm Y wb.rfl' [vr 2 ((q20.2 21 ((q20.2 8 o 2).toNat) a0.toNat).toNat), vi (q20.2 8 o 4), vi a1] [] (wx_Walk_mostAtOnce l D B H0 G0 k0 _ ((q20.2 8 o 10).toNat) ((q20.2 21 ((q20.2 8 o 2).toNat) a0.toNat).toNat) (q20.2 8 o 4) a1 g24 g28 _ h) cl_CS_193 g24 rfl rfl rfl e_wx_CS_peak_38 rfl rfl rfl ⟨by decide, by decide⟩ (fun r29 A30 G31 k32 q33 p34 y35 b36 => ?_)
        have h := p34
        refine wk1 ?_
        exact w_iret C Rm E (fun a τ z => y35 a τ ((fun _ _ z => z) a τ z)) b36 e_wx_CS_peak_41 h
      · have h := wfp c23 h
        refine h_blk 22 [(0, vr 8 o), (1, vi a0), (2, vi a1)] [vi (-2)] C f_wx_CS_peak_20_1 rfl ?_
        exact w_iret C Rm E (fun _ _ z => z) wb.rfl' e_wx_CS_peak_22 h

def w_CS_alike_96 (c_65 : Nat → tG → mA → Nat → Nat → Nat → Int → wQ → Prop) : Nat → Nat → tG → mA → Nat → Nat → Nat → Int → Int → wQ → Prop
  | 0, _, _, _, _, _, _, _, _, _ => False
  | n + 1, k, G, A, b0, b3, b4, b5, b6, Q => (if g32 b6 then (if 10 ≤ b6 then (c_65 k G A b0 b3 b4 (b5 + 1) Q) else (if (0 ≤ b6 ∧ b6 < ((10 : Nat) : Int)) then (∃ q5, f_Crowd_weight A b3 = some q5 ∧ (∃ q8, f_Crowd_weight q5.2 b4 = some q8 ∧ (∃ q10, f_CS_isSameRatio q8.2 (A 23 ((A 8 b0 11).toNat) b6.toNat) q5.1 (q5.2 23 ((q5.2 8 b0 12).toNat) b6.toNat) q8.1 = some q10 ∧ (if g32 q10.1 then (if q10.1 = 0 then (Q 0 q10.2 G k) else (w_CS_alike_96  c_65 n k G q10.2 b0 b3 b4 b5 (b6 + 1) Q)) else False)))) else False)) else False)
def w_CS_alike_65 : Nat → Nat → tG → mA → Nat → Nat → Nat → Int → wQ → Prop
  | 0, _, _, _, _, _, _, _, _ => False
  | n + 1, k, G, A, b0, b3, b4, b5, Q => (if g32 b5 then (if 6 ≤ b5 then (Q 1 A G k) else (∃ q17, f_Crowd_spread A b3 b5 ((A 8 b0 11).toNat) = some q17 ∧ (∃ q20, f_Crowd_spread q17.2 b4 b5 ((q17.2 8 b0 12).toNat) = some q20 ∧ (w_CS_alike_96  (w_CS_alike_65   n) 20 k G q20.2 b0 b3 b4 b5 0 Q)))) else False)
def w_CS_alike (k0 : Nat) (G0 : tG) (A : mA) (o : Nat) (a0 : Int) (a1 : Int) (Q : wQ) : Prop := (∃ q22, f_CS_isProgram A o a0 = some q22 ∧ (if g32 q22.1 then (if q22.1 = 0 then (Q (-2) q22.2 G0 k0) else (∃ q26, f_CS_isProgram q22.2 o a1 = some q26 ∧ (if g32 q26.1 then (if q26.1 = 0 then (Q (-2) q26.2 G0 k0) else (w_CS_endOf k0 G0 q26.2 o a0 (fun r30 A31 G32 k33 => (if 0 ≤ r30 then (w_CS_endOf k33 G32 A31 o a1 (fun r40 A41 G42 k43 => (if 0 ≤ r40 then (if g32 (A41 0 r30.toNat 2) then (if (A41 0 r30.toNat 2) = 0 then (Q (-7) A41 G42 k43) else (if g32 (A41 0 r40.toNat 2) then (if (A41 0 r40.toNat 2) = 0 then (Q (-7) A41 G42 k43) else (w_CS_alike_65  20 k43 G42 A41 o r30.toNat r40.toNat 0 Q)) else False)) else False) else (Q (-6) A41 G42 k43)))) else (w_CS_endOf k33 G32 A31 o a1 (fun r54 A55 G56 k57 => (if 0 ≤ r54 then (Q (-6) A55 G56 k57) else (Q (-6) A55 G56 k57)))))))) else False))) else False))
theorem f_wx_CS_alike_0_2 : mblkB b_CS_alike [(0, .aload_n 0, vi 0), (1, .iload_n 1, vi 0)] = true := by decide +kernel
theorem e_wx_CS_alike_2 : decode b_CS_alike 2 = .ok (.invokevirtual 94, 3) := by decide +kernel
theorem e_wx_CS_alike_5 : decode b_CS_alike 5 = .ok (.ifCond .eq 11, 3) := by decide +kernel
theorem f_wx_CS_alike_16_1 : mblkB b_CS_alike [(16, .bipush (-2), vi (-2))] = true := by decide +kernel
theorem e_wx_CS_alike_18 : decode b_CS_alike 18 = .ok (.ireturn, 1) := by decide +kernel
theorem f_wx_CS_alike_8_2 : mblkB b_CS_alike [(8, .aload_n 0, vi 0), (9, .iload_n 2, vi 0)] = true := by decide +kernel
theorem e_wx_CS_alike_10 : decode b_CS_alike 10 = .ok (.invokevirtual 94, 3) := by decide +kernel
theorem e_wx_CS_alike_13 : decode b_CS_alike 13 = .ok (.ifCond .ne 6, 3) := by decide +kernel
theorem f_wx_CS_alike_19_2 : mblkB b_CS_alike [(19, .aload_n 0, vi 0), (20, .iload_n 1, vi 0)] = true := by decide +kernel
theorem e_wx_CS_alike_21 : decode b_CS_alike 21 = .ok (.invokevirtual 107, 3) := by decide +kernel
theorem f_wx_CS_alike_24_3 : mblkB b_CS_alike [(24, .astore_n 3, vi 0), (25, .aload_n 0, vi 0), (26, .iload_n 2, vi 0)] = true := by decide +kernel
theorem e_wx_CS_alike_27 : decode b_CS_alike 27 = .ok (.invokevirtual 107, 3) := by decide +kernel
theorem f_wx_CS_alike_30_2 : mblkB b_CS_alike [(30, .astore 4, vi 0), (32, .aload_n 3, vi 0)] = true := by decide +kernel
theorem e_wx_CS_alike_33 : decode b_CS_alike 33 = .ok (.ifnull 8, 3) := by decide +kernel
theorem f_wx_CS_alike_36_1 : mblkB b_CS_alike [(36, .aload 4, vi 0)] = true := by decide +kernel
theorem e_wx_CS_alike_38 : decode b_CS_alike 38 = .ok (.ifnonnull 6, 3) := by decide +kernel
theorem f_wx_CS_alike_44_1 : mblkB b_CS_alike [(44, .aload_n 3, vi 0)] = true := by decide +kernel
theorem e_wx_CS_alike_45 : decode b_CS_alike 45 = .ok (.getfield 111, 3) := by decide +kernel
theorem e_wx_CS_alike_48 : decode b_CS_alike 48 = .ok (.ifCond .eq 11, 3) := by decide +kernel
theorem f_wx_CS_alike_59_1 : mblkB b_CS_alike [(59, .bipush (-7), vi (-7))] = true := by decide +kernel
theorem e_wx_CS_alike_61 : decode b_CS_alike 61 = .ok (.ireturn, 1) := by decide +kernel
theorem f_wx_CS_alike_51_1 : mblkB b_CS_alike [(51, .aload 4, vi 0)] = true := by decide +kernel
theorem e_wx_CS_alike_53 : decode b_CS_alike 53 = .ok (.getfield 111, 3) := by decide +kernel
theorem e_wx_CS_alike_56 : decode b_CS_alike 56 = .ok (.ifCond .ne 6, 3) := by decide +kernel
theorem f_wx_CS_alike_62_2 : mblkB b_CS_alike [(62, .iconst 0, vi 0), (63, .istore 5, vi 0)] = true := by decide +kernel
theorem f_wx_CS_alike_41_1 : mblkB b_CS_alike [(41, .bipush (-6), vi (-6))] = true := by decide +kernel
theorem e_wx_CS_alike_43 : decode b_CS_alike 43 = .ok (.ireturn, 1) := by decide +kernel
theorem f_wx_CS_alike_65_2 : mblkB b_CS_alike [(65, .iload 5, vi 0), (67, .bipush 6, vi 6)] = true := by decide +kernel
theorem e_wx_CS_alike_69 : decode b_CS_alike 69 = .ok (.if_icmp .ge 77, 3) := by decide +kernel
theorem f_wx_CS_alike_146_1 : mblkB b_CS_alike [(146, .iconst 1, vi 1)] = true := by decide +kernel
theorem e_wx_CS_alike_147 : decode b_CS_alike 147 = .ok (.ireturn, 1) := by decide +kernel
theorem f_wx_CS_alike_72_3 : mblkB b_CS_alike [(72, .aload_n 3, vi 0), (73, .iload 5, vi 0), (75, .aload_n 0, vi 0)] = true := by decide +kernel
theorem e_wx_CS_alike_76 : decode b_CS_alike 76 = .ok (.getfield 39, 3) := by decide +kernel
theorem e_wx_CS_alike_79 : decode b_CS_alike 79 = .ok (.invokevirtual 155, 3) := by decide +kernel
theorem f_wx_CS_alike_82_3 : mblkB b_CS_alike [(82, .aload 4, vi 0), (84, .iload 5, vi 0), (86, .aload_n 0, vi 0)] = true := by decide +kernel
theorem e_wx_CS_alike_87 : decode b_CS_alike 87 = .ok (.getfield 43, 3) := by decide +kernel
theorem e_wx_CS_alike_90 : decode b_CS_alike 90 = .ok (.invokevirtual 155, 3) := by decide +kernel
theorem f_wx_CS_alike_93_2 : mblkB b_CS_alike [(93, .iconst 0, vi 0), (94, .istore 6, vi 0)] = true := by decide +kernel
theorem f_wx_CS_alike_96_2 : mblkB b_CS_alike [(96, .iload 6, vi 0), (98, .bipush 10, vi 10)] = true := by decide +kernel
theorem e_wx_CS_alike_100 : decode b_CS_alike 100 = .ok (.if_icmp .ge 40, 3) := by decide +kernel
theorem f_wx_CS_alike_140_2 : mblkB b_CS_alike [(140, .iinc 5 1, vi 1), (143, .goto (-78), vi 65)] = true := by decide +kernel
theorem f_wx_CS_alike_103_1 : mblkB b_CS_alike [(103, .aload_n 0, vi 0)] = true := by decide +kernel
theorem e_wx_CS_alike_104 : decode b_CS_alike 104 = .ok (.getfield 39, 3) := by decide +kernel
theorem f_wx_CS_alike_107_1 : mblkB b_CS_alike [(107, .iload 6, vi 0)] = true := by decide +kernel
theorem e_wx_CS_alike_109 : decode b_CS_alike 109 = .ok (.laload, 1) := by decide +kernel
theorem f_wx_CS_alike_110_1 : mblkB b_CS_alike [(110, .aload_n 3, vi 0)] = true := by decide +kernel
theorem e_wx_CS_alike_111 : decode b_CS_alike 111 = .ok (.invokevirtual 145, 3) := by decide +kernel
theorem f_wx_CS_alike_114_1 : mblkB b_CS_alike [(114, .aload_n 0, vi 0)] = true := by decide +kernel
theorem e_wx_CS_alike_115 : decode b_CS_alike 115 = .ok (.getfield 43, 3) := by decide +kernel
theorem f_wx_CS_alike_118_1 : mblkB b_CS_alike [(118, .iload 6, vi 0)] = true := by decide +kernel
theorem e_wx_CS_alike_120 : decode b_CS_alike 120 = .ok (.laload, 1) := by decide +kernel
theorem f_wx_CS_alike_121_1 : mblkB b_CS_alike [(121, .aload 4, vi 0)] = true := by decide +kernel
theorem e_wx_CS_alike_123 : decode b_CS_alike 123 = .ok (.invokevirtual 145, 3) := by decide +kernel
theorem e_wx_CS_alike_126 : decode b_CS_alike 126 = .ok (.invokestatic 183, 3) := by decide +kernel
theorem e_wx_CS_alike_129 : decode b_CS_alike 129 = .ok (.ifCond .ne 5, 3) := by decide +kernel
theorem f_wx_CS_alike_134_2 : mblkB b_CS_alike [(134, .iinc 6 1, vi 1), (137, .goto (-41), vi 96)] = true := by decide +kernel
theorem f_wx_CS_alike_132_1 : mblkB b_CS_alike [(132, .iconst 0, vi 0)] = true := by decide +kernel
theorem e_wx_CS_alike_133 : decode b_CS_alike 133 = .ok (.ireturn, 1) := by decide +kernel
set_option maxHeartbeats 4000000 in
set_option maxRecDepth 20000 in
theorem wx_CS_alike  : ∀ (l : Launch) (D : va_G) (B : Nat) (H0 : Heap) (G0 : tG) (k0 : Nat) (A : mA) (o : Nat) (a0 : Int) (a1 : Int) (h_o : G0 o = some 8)  (Q : wQ), w_CS_alike  k0 G0 A o a0 a1 Q → wMet l D B H0 G0 k0 y_CS_alike b_CS_alike 7 (some .int) 465 15134 1 [vr 8 o, vi a0, vi a1] A Q := by
  intro l D B H0 G0 k0 A o a0 a1 h_o Q h
  refine w_met (by decide) rfl (fun g q0 C Rm Y E => ?_)
  have hd_96 : ∀ (c_65 : Nat → tG → mA → Nat → Nat → Nat → Int → wQ → Prop) (hc_65 : ∀ (k : Nat) (G : tG) (q : Nat × Nat) (hgo : ∀ a τ, G0 a = some τ → G a = some τ) (hb : wb q0 k0 q k) (A : mA) (b0 : Nat) (b3 : Nat) (b4 : Nat) (b5 : Int) , G b0 = some 8 → G b3 = some 0 → G b4 = some 0 → c_65 k G A b0 b3 b4 b5 Q → HM g D G q A 65 [(0, vr 8 b0), (3, vr 0 b3), (4, vr 0 b4), (5, vi b5)] []) (n : Nat) (k : Nat) (G : tG) (q : Nat × Nat) (hgo : ∀ a τ, G0 a = some τ → G a = some τ) (hb : wb q0 k0 q k) (A : mA) (b0 : Nat) (b3 : Nat) (b4 : Nat) (b5 : Int) (b6 : Int) , G b0 = some 8 → G b3 = some 0 → G b4 = some 0 → w_CS_alike_96  c_65 n k G A b0 b3 b4 b5 b6 Q → HM g D G q A 96 [(0, vr 8 b0), (3, vr 0 b3), (4, vr 0 b4), (5, vi b5), (6, vi b6)] [] := by
    intro c_65 hc_65 n
    induction n with
    | zero => intro k G q hgo hb A b0 b3 b4 b5 b6 h_b0 h_b3 h_b4 h; exact h.elim
    | succ n ih =>
      intro k G q hgo hb A b0 b3 b4 b5 b6 h_b0 h_b3 h_b4 h
      unfold w_CS_alike_96 at h
      refine h_blk 100 [(0, vr 8 b0), (3, vr 0 b3), (4, vr 0 b4), (5, vi b5), (6, vi b6)] [vi 10, vi b6] C f_wx_CS_alike_96_2 rfl ?_
      obtain ⟨c1, h⟩ := wgd h
      refine h_icmp_ge (tgt := 140) C e_wx_CS_alike_100 (by decide) c1 (by decide) (fun c2 => ?_) (fun c2 => ?_)
      · have h := wfp c2 h
        refine h_blk 65 [(5, vi (b5 + 1)), (0, vr 8 b0), (3, vr 0 b3), (4, vr 0 b4), (6, vi b6)] [] C f_wx_CS_alike_140_2 rfl ?_
        refine h_loc [(0, vr 8 b0), (3, vr 0 b3), (4, vr 0 b4), (5, vi (b5 + 1))] ⟨rfl, rfl, rfl, rfl, trivial⟩ ?_
        exact hc_65 k G q hgo hb A b0 b3 b4 (b5 + 1) (h_b0) (h_b3) (h_b4) h
      · have h := wfn c2 h
        refine h_blk 104 [(0, vr 8 b0), (3, vr 0 b3), (4, vr 0 b4), (5, vi b5), (6, vi b6)] [vr 8 b0] C f_wx_CS_alike_103_1 rfl ?_
        refine h_getr4 C e_wx_CS_alike_104 fg_CS_39 h_b0 rfl rfl rfl rfl (fun g3 => ?_)
        refine h_blk 109 [(0, vr 8 b0), (3, vr 0 b3), (4, vr 0 b4), (5, vi b5), (6, vi b6)] [vi b6, vr 23 ((A 8 b0 11).toNat)] C f_wx_CS_alike_107_1 rfl ?_
        obtain ⟨c4, h⟩ := wgd h
        refine h_lald C e_wx_CS_alike_109 g3 rfl rfl (by decide) c4.1 c4.2 (A 23 ((A 8 b0 11).toNat) b6.toNat) rfl ?_
        refine h_blk 111 [(0, vr 8 b0), (3, vr 0 b3), (4, vr 0 b4), (5, vi b5), (6, vi b6)] [vr 0 b3, vl (A 23 ((A 8 b0 11).toNat) b6.toNat)] C f_wx_CS_alike_110_1 rfl ?_
        obtain ⟨q5, e6, h⟩ := h
        refine w_callV C Rm Y hb [] [vl (A 23 ((A 8 b0 11).toNat) b6.toNat)] (hx_Crowd_weight l D B H0 G _ b3 h_b3 _ _ e6) cl_CS_145 h_b3 rfl rfl rfl e_wx_CS_alike_111 rfl rfl rfl ⟨by decide, by decide⟩ ?_
        rintro _ _ ⟨rfl, rfl⟩
        show HM g D G q q5.2 114 [(0, vr 8 b0), (3, vr 0 b3), (4, vr 0 b4), (5, vi b5), (6, vi b6)] [vl q5.1, vl (A 23 ((A 8 b0 11).toNat) b6.toNat)]
        refine h_blk 115 [(0, vr 8 b0), (3, vr 0 b3), (4, vr 0 b4), (5, vi b5), (6, vi b6)] [vr 8 b0, vl q5.1, vl (A 23 ((A 8 b0 11).toNat) b6.toNat)] C f_wx_CS_alike_114_1 rfl ?_
        refine h_getr4 C e_wx_CS_alike_115 fg_CS_43 h_b0 rfl rfl rfl rfl (fun g7 => ?_)
        refine h_blk 120 [(0, vr 8 b0), (3, vr 0 b3), (4, vr 0 b4), (5, vi b5), (6, vi b6)] [vi b6, vr 23 ((q5.2 8 b0 12).toNat), vl q5.1, vl (A 23 ((A 8 b0 11).toNat) b6.toNat)] C f_wx_CS_alike_118_1 rfl ?_
        refine h_lald C e_wx_CS_alike_120 g7 rfl rfl (by decide) c4.1 c4.2 (q5.2 23 ((q5.2 8 b0 12).toNat) b6.toNat) rfl ?_
        refine h_blk 123 [(0, vr 8 b0), (3, vr 0 b3), (4, vr 0 b4), (5, vi b5), (6, vi b6)] [vr 0 b4, vl (q5.2 23 ((q5.2 8 b0 12).toNat) b6.toNat), vl q5.1, vl (A 23 ((A 8 b0 11).toNat) b6.toNat)] C f_wx_CS_alike_121_1 rfl ?_
        obtain ⟨q8, e9, h⟩ := h
        refine w_callV C Rm Y hb [] [vl (q5.2 23 ((q5.2 8 b0 12).toNat) b6.toNat), vl q5.1, vl (A 23 ((A 8 b0 11).toNat) b6.toNat)] (hx_Crowd_weight l D B H0 G _ b4 h_b4 _ _ e9) cl_CS_145 h_b4 rfl rfl rfl e_wx_CS_alike_123 rfl rfl rfl ⟨by decide, by decide⟩ ?_
        rintro _ _ ⟨rfl, rfl⟩
        show HM g D G q q8.2 126 [(0, vr 8 b0), (3, vr 0 b3), (4, vr 0 b4), (5, vi b5), (6, vi b6)] [vl q8.1, vl (q5.2 23 ((q5.2 8 b0 12).toNat) b6.toNat), vl q5.1, vl (A 23 ((A 8 b0 11).toNat) b6.toNat)]
        obtain ⟨q10, e11, h⟩ := h
        refine w_callS C Rm Y hb [vl (A 23 ((A 8 b0 11).toNat) b6.toNat), vl q5.1, vl (q5.2 23 ((q5.2 8 b0 12).toNat) b6.toNat), vl q8.1] [] (hx_CS_isSameRatio l D B H0 G _ (A 23 ((A 8 b0 11).toNat) b6.toNat) q5.1 (q5.2 23 ((q5.2 8 b0 12).toNat) b6.toNat) q8.1 _ _ e11) cl_CS_183 e_wx_CS_alike_126 rfl rfl rfl ⟨by decide, by decide⟩ ?_
        rintro _ _ ⟨rfl, rfl⟩
        show HM g D G q q10.2 129 [(0, vr 8 b0), (3, vr 0 b3), (4, vr 0 b4), (5, vi b5), (6, vi b6)] [vi q10.1]
        obtain ⟨c12, h⟩ := wgd h
        refine h_if_ne (tgt := 134) C e_wx_CS_alike_129 (by decide) c12 (fun c13 => ?_) (fun c13 => ?_)
        · have h := wfn c13 h
          refine h_blk 96 [(6, vi (b6 + 1)), (0, vr 8 b0), (3, vr 0 b3), (4, vr 0 b4), (5, vi b5)] [] C f_wx_CS_alike_134_2 rfl ?_
          refine h_loc [(0, vr 8 b0), (3, vr 0 b3), (4, vr 0 b4), (5, vi b5), (6, vi (b6 + 1))] ⟨rfl, rfl, rfl, rfl, rfl, trivial⟩ ?_
          exact ih k G q hgo hb q10.2 b0 b3 b4 b5 (b6 + 1) (h_b0) (h_b3) (h_b4) h
        · have h := wfp c13 h
          refine h_blk 133 [(0, vr 8 b0), (3, vr 0 b3), (4, vr 0 b4), (5, vi b5), (6, vi b6)] [vi 0] C f_wx_CS_alike_132_1 rfl ?_
          exact w_iret C Rm E hgo hb e_wx_CS_alike_133 h
  have hd_65 : ∀ (n : Nat) (k : Nat) (G : tG) (q : Nat × Nat) (hgo : ∀ a τ, G0 a = some τ → G a = some τ) (hb : wb q0 k0 q k) (A : mA) (b0 : Nat) (b3 : Nat) (b4 : Nat) (b5 : Int) , G b0 = some 8 → G b3 = some 0 → G b4 = some 0 → w_CS_alike_65   n k G A b0 b3 b4 b5 Q → HM g D G q A 65 [(0, vr 8 b0), (3, vr 0 b3), (4, vr 0 b4), (5, vi b5)] [] := by
    intro  n
    induction n with
    | zero => intro k G q hgo hb A b0 b3 b4 b5 h_b0 h_b3 h_b4 h; exact h.elim
    | succ n ih =>
      intro k G q hgo hb A b0 b3 b4 b5 h_b0 h_b3 h_b4 h
      unfold w_CS_alike_65 at h
      refine h_blk 69 [(0, vr 8 b0), (3, vr 0 b3), (4, vr 0 b4), (5, vi b5)] [vi 6, vi b5] C f_wx_CS_alike_65_2 rfl ?_
      obtain ⟨c14, h⟩ := wgd h
      refine h_icmp_ge (tgt := 146) C e_wx_CS_alike_69 (by decide) c14 (by decide) (fun c15 => ?_) (fun c15 => ?_)
      · have h := wfp c15 h
        refine h_blk 147 [(0, vr 8 b0), (3, vr 0 b3), (4, vr 0 b4), (5, vi b5)] [vi 1] C f_wx_CS_alike_146_1 rfl ?_
        exact w_iret C Rm E hgo hb e_wx_CS_alike_147 h
      · have h := wfn c15 h
        refine h_blk 76 [(0, vr 8 b0), (3, vr 0 b3), (4, vr 0 b4), (5, vi b5)] [vr 8 b0, vi b5, vr 0 b3] C f_wx_CS_alike_72_3 rfl ?_
        refine h_getr4 C e_wx_CS_alike_76 fg_CS_39 h_b0 rfl rfl rfl rfl (fun g16 => ?_)
        obtain ⟨q17, e18, h⟩ := h
        refine w_callV C Rm Y hb [vi b5, vr 23 ((A 8 b0 11).toNat)] [] (hx_Crowd_spread l D B H0 G _ b3 b5 ((A 8 b0 11).toNat) h_b3 g16 _ _ e18) cl_CS_155 h_b3 rfl rfl rfl e_wx_CS_alike_79 rfl rfl rfl ⟨by decide, by decide⟩ ?_
        rintro _ _ ⟨rfl, rfl⟩
        show HM g D G q q17.2 82 [(0, vr 8 b0), (3, vr 0 b3), (4, vr 0 b4), (5, vi b5)] []
        refine h_blk 87 [(0, vr 8 b0), (3, vr 0 b3), (4, vr 0 b4), (5, vi b5)] [vr 8 b0, vi b5, vr 0 b4] C f_wx_CS_alike_82_3 rfl ?_
        refine h_getr4 C e_wx_CS_alike_87 fg_CS_43 h_b0 rfl rfl rfl rfl (fun g19 => ?_)
        obtain ⟨q20, e21, h⟩ := h
        refine w_callV C Rm Y hb [vi b5, vr 23 ((q17.2 8 b0 12).toNat)] [] (hx_Crowd_spread l D B H0 G _ b4 b5 ((q17.2 8 b0 12).toNat) h_b4 g19 _ _ e21) cl_CS_155 h_b4 rfl rfl rfl e_wx_CS_alike_90 rfl rfl rfl ⟨by decide, by decide⟩ ?_
        rintro _ _ ⟨rfl, rfl⟩
        show HM g D G q q20.2 93 [(0, vr 8 b0), (3, vr 0 b3), (4, vr 0 b4), (5, vi b5)] []
        refine h_blk 96 [(6, vi 0), (0, vr 8 b0), (3, vr 0 b3), (4, vr 0 b4), (5, vi b5)] [] C f_wx_CS_alike_93_2 rfl ?_
        refine h_loc [(0, vr 8 b0), (3, vr 0 b3), (4, vr 0 b4), (5, vi b5), (6, vi 0)] ⟨rfl, rfl, rfl, rfl, rfl, trivial⟩ ?_
        exact hd_96 (w_CS_alike_65   n) ih _ k G q hgo hb q20.2 b0 b3 b4 b5 0 (h_b0) (h_b3) (h_b4) h
  show HM g D G0 q0 A 0 [(0, vr 8 o), (1, vi a0), (2, vi a1)] []
  unfold w_CS_alike at h
  refine h_blk 2 [(0, vr 8 o), (1, vi a0), (2, vi a1)] [vi a0, vr 8 o] C f_wx_CS_alike_0_2 rfl ?_
  obtain ⟨q22, e23, h⟩ := h
  refine w_callV C Rm Y wb.rfl' [vi a0] [] (hx_CS_isProgram l D B H0 G0 _ o a0 h_o _ _ e23) cl_CS_94 h_o rfl rfl rfl e_wx_CS_alike_2 rfl rfl rfl ⟨by decide, by decide⟩ ?_
  rintro _ _ ⟨rfl, rfl⟩
  show HM g D G0 q0 q22.2 5 [(0, vr 8 o), (1, vi a0), (2, vi a1)] [vi q22.1]
  obtain ⟨c24, h⟩ := wgd h
  refine h_if_eq (tgt := 16) C e_wx_CS_alike_5 (by decide) c24 (fun c25 => ?_) (fun c25 => ?_)
  · have h := wfp c25 h
    refine h_blk 18 [(0, vr 8 o), (1, vi a0), (2, vi a1)] [vi (-2)] C f_wx_CS_alike_16_1 rfl ?_
    exact w_iret C Rm E (fun _ _ z => z) wb.rfl' e_wx_CS_alike_18 h
  · have h := wfn c25 h
    refine h_blk 10 [(0, vr 8 o), (1, vi a0), (2, vi a1)] [vi a1, vr 8 o] C f_wx_CS_alike_8_2 rfl ?_
    obtain ⟨q26, e27, h⟩ := h
    refine w_callV C Rm Y wb.rfl' [vi a1] [] (hx_CS_isProgram l D B H0 G0 _ o a1 h_o _ _ e27) cl_CS_94 h_o rfl rfl rfl e_wx_CS_alike_10 rfl rfl rfl ⟨by decide, by decide⟩ ?_
    rintro _ _ ⟨rfl, rfl⟩
    show HM g D G0 q0 q26.2 13 [(0, vr 8 o), (1, vi a0), (2, vi a1)] [vi q26.1]
    obtain ⟨c28, h⟩ := wgd h
    refine h_if_ne (tgt := 19) C e_wx_CS_alike_13 (by decide) c28 (fun c29 => ?_) (fun c29 => ?_)
    · have h := wfn c29 h
      refine h_blk 21 [(0, vr 8 o), (1, vi a0), (2, vi a1)] [vi a0, vr 8 o] C f_wx_CS_alike_19_2 rfl ?_
      refine w_wV C Rm Y wb.rfl' [vi a0] [] (wx_CS_endOf l D B H0 G0 k0 _ o a0 h_o _ h) cl_CS_107 h_o rfl rfl rfl e_wx_CS_alike_21 rfl rfl rfl ⟨by decide, by decide⟩ (fun r30 A31 G32 k33 q34 p35 y36 b37 => ?_)
      have h := p35
      refine wk3 (fun c38 g39 => ?_) (fun c38 => ?_)
      · have h := wfp c38 h
        refine h_blk 27 [(3, vr 0 r30.toNat), (0, vr 8 o), (1, vi a0), (2, vi a1)] [vi a1, vr 8 o] C f_wx_CS_alike_24_3 rfl ?_
        refine w_wV C Rm Y b37 [vi a1] [] (wx_CS_endOf l D B H0 G32 k33 _ o a1 (y36 _ _ h_o) _ h) cl_CS_107 (y36 _ _ h_o) rfl rfl rfl e_wx_CS_alike_27 rfl rfl rfl ⟨by decide, by decide⟩ (fun r40 A41 G42 k43 q44 p45 y46 b47 => ?_)
        have h := p45
        refine wk3 (fun c48 g49 => ?_) (fun c48 => ?_)
        · have h := wfp c48 h
          refine h_blk 33 [(4, vr 0 r40.toNat), (3, vr 0 r30.toNat), (0, vr 8 o), (1, vi a0), (2, vi a1)] [vr 0 r30.toNat] C f_wx_CS_alike_30_2 rfl ?_
          refine h_ifnull C e_wx_CS_alike_33 ?_
          refine h_blk 38 [(4, vr 0 r40.toNat), (3, vr 0 r30.toNat), (0, vr 8 o), (1, vi a0), (2, vi a1)] [vr 0 r40.toNat] C f_wx_CS_alike_36_1 rfl ?_
          refine h_ifnonnull (tgt := 44) C e_wx_CS_alike_38 (by decide) ?_
          refine h_blk 45 [(4, vr 0 r40.toNat), (3, vr 0 r30.toNat), (0, vr 8 o), (1, vi a0), (2, vi a1)] [vr 0 r30.toNat] C f_wx_CS_alike_44_1 rfl ?_
          refine h_geti C e_wx_CS_alike_45 fg_CS_111 (y46 _ _ g39) rfl rfl rfl (A41 0 r30.toNat 2) rfl ?_
          obtain ⟨c50, h⟩ := wgd h
          refine h_if_eq (tgt := 59) C e_wx_CS_alike_48 (by decide) c50 (fun c51 => ?_) (fun c51 => ?_)
          · have h := wfp c51 h
            refine h_blk 61 [(4, vr 0 r40.toNat), (3, vr 0 r30.toNat), (0, vr 8 o), (1, vi a0), (2, vi a1)] [vi (-7)] C f_wx_CS_alike_59_1 rfl ?_
            exact w_iret C Rm E (fun a τ z => y46 a τ ((fun a τ z => y36 a τ ((fun _ _ z => z) a τ z)) a τ z)) b47 e_wx_CS_alike_61 h
          · have h := wfn c51 h
            refine h_blk 53 [(4, vr 0 r40.toNat), (3, vr 0 r30.toNat), (0, vr 8 o), (1, vi a0), (2, vi a1)] [vr 0 r40.toNat] C f_wx_CS_alike_51_1 rfl ?_
            refine h_geti C e_wx_CS_alike_53 fg_CS_111 g49 rfl rfl rfl (A41 0 r40.toNat 2) rfl ?_
            obtain ⟨c52, h⟩ := wgd h
            refine h_if_ne (tgt := 62) C e_wx_CS_alike_56 (by decide) c52 (fun c53 => ?_) (fun c53 => ?_)
            · have h := wfn c53 h
              refine h_blk 65 [(5, vi 0), (4, vr 0 r40.toNat), (3, vr 0 r30.toNat), (0, vr 8 o), (1, vi a0), (2, vi a1)] [] C f_wx_CS_alike_62_2 rfl ?_
              refine h_loc [(0, vr 8 o), (3, vr 0 r30.toNat), (4, vr 0 r40.toNat), (5, vi 0)] ⟨rfl, rfl, rfl, rfl, trivial⟩ ?_
              exact hd_65 _ k43 G42 q44 (fun a τ z => y46 a τ ((fun a τ z => y36 a τ ((fun _ _ z => z) a τ z)) a τ z)) b47 A41 o r30.toNat r40.toNat 0 ((y46 _ _ (y36 _ _ h_o))) ((y46 _ _ g39)) (g49) h
            · have h := wfp c53 h
              refine h_blk 61 [(4, vr 0 r40.toNat), (3, vr 0 r30.toNat), (0, vr 8 o), (1, vi a0), (2, vi a1)] [vi (-7)] C f_wx_CS_alike_59_1 rfl ?_
              exact w_iret C Rm E (fun a τ z => y46 a τ ((fun a τ z => y36 a τ ((fun _ _ z => z) a τ z)) a τ z)) b47 e_wx_CS_alike_61 h
        · have h := wfn (by omega)  h
          refine h_blk 33 [(4, vn), (3, vr 0 r30.toNat), (0, vr 8 o), (1, vi a0), (2, vi a1)] [vr 0 r30.toNat] C f_wx_CS_alike_30_2 rfl ?_
          refine h_ifnull C e_wx_CS_alike_33 ?_
          refine h_blk 38 [(4, vn), (3, vr 0 r30.toNat), (0, vr 8 o), (1, vi a0), (2, vi a1)] [vn] C f_wx_CS_alike_36_1 rfl ?_
          refine wn_ifnonnull C e_wx_CS_alike_38 ?_
          refine h_blk 43 [(4, vn), (3, vr 0 r30.toNat), (0, vr 8 o), (1, vi a0), (2, vi a1)] [vi (-6)] C f_wx_CS_alike_41_1 rfl ?_
          exact w_iret C Rm E (fun a τ z => y46 a τ ((fun a τ z => y36 a τ ((fun _ _ z => z) a τ z)) a τ z)) b47 e_wx_CS_alike_43 h
      · have h := wfn (by omega)  h
        refine h_blk 27 [(3, vn), (0, vr 8 o), (1, vi a0), (2, vi a1)] [vi a1, vr 8 o] C f_wx_CS_alike_24_3 rfl ?_
        refine w_wV C Rm Y b37 [vi a1] [] (wx_CS_endOf l D B H0 G32 k33 _ o a1 (y36 _ _ h_o) _ h) cl_CS_107 (y36 _ _ h_o) rfl rfl rfl e_wx_CS_alike_27 rfl rfl rfl ⟨by decide, by decide⟩ (fun r54 A55 G56 k57 q58 p59 y60 b61 => ?_)
        have h := p59
        refine wk3 (fun c62 g63 => ?_) (fun c62 => ?_)
        · have h := wfp c62 h
          refine h_blk 33 [(4, vr 0 r54.toNat), (3, vn), (0, vr 8 o), (1, vi a0), (2, vi a1)] [vn] C f_wx_CS_alike_30_2 rfl ?_
          refine wn_ifnull (tgt := 41) C e_wx_CS_alike_33 (by decide) ?_
          refine h_blk 43 [(4, vr 0 r54.toNat), (3, vn), (0, vr 8 o), (1, vi a0), (2, vi a1)] [vi (-6)] C f_wx_CS_alike_41_1 rfl ?_
          exact w_iret C Rm E (fun a τ z => y60 a τ ((fun a τ z => y36 a τ ((fun _ _ z => z) a τ z)) a τ z)) b61 e_wx_CS_alike_43 h
        · have h := wfn (by omega)  h
          refine h_blk 33 [(4, vn), (3, vn), (0, vr 8 o), (1, vi a0), (2, vi a1)] [vn] C f_wx_CS_alike_30_2 rfl ?_
          refine wn_ifnull (tgt := 41) C e_wx_CS_alike_33 (by decide) ?_
          refine h_blk 43 [(4, vn), (3, vn), (0, vr 8 o), (1, vi a0), (2, vi a1)] [vi (-6)] C f_wx_CS_alike_41_1 rfl ?_
          exact w_iret C Rm E (fun a τ z => y60 a τ ((fun a τ z => y36 a τ ((fun _ _ z => z) a τ z)) a τ z)) b61 e_wx_CS_alike_43 h
    · have h := wfp c29 h
      refine h_blk 18 [(0, vr 8 o), (1, vi a0), (2, vi a1)] [vi (-2)] C f_wx_CS_alike_16_1 rfl ?_
      exact w_iret C Rm E (fun _ _ z => z) wb.rfl' e_wx_CS_alike_18 h

def w_CS_tells (k0 : Nat) (G0 : tG) (A : mA) (o : Nat) (a0 : Int) (a1 : Int) (a2 : Int) (a3 : Int) (Q : wQ) : Prop := (∃ q1, f_CS_isSheet A a0 = some q1 ∧ (if g32 q1.1 then (if q1.1 = 0 then (Q (-2) q1.2 G0 k0) else (∃ q5, f_CS_isProgram q1.2 o a1 = some q5 ∧ (if g32 q5.1 then (if q5.1 = 0 then (Q (-2) q5.2 G0 k0) else (∃ q9, f_CS_isName q5.2 a2 = some q9 ∧ (if g32 q9.1 then (if q9.1 = 0 then (Q (-2) q9.2 G0 k0) else (if g32 a3 then (if a3 < 0 then (Q (-2) q9.2 G0 k0) else (if a3 ≤ 3 then (w_CS_endOf k0 G0 q9.2 o a1 (fun r16 A17 G18 k19 => (if 0 ≤ r16 then (if g32 (A17 0 r16.toNat 2) then (if (A17 0 r16.toNat 2) = 0 then (Q (-7) A17 G18 k19) else (if (0 ≤ a0 ∧ a0 < ((4 : Nat) : Int)) then (if g32 (A17 5 ((A17 22 ((A17 8 o 8).toNat) a0.toNat).toNat) 1) then (if (A17 5 ((A17 22 ((A17 8 o 8).toNat) a0.toNat).toNat) 1) = (-1) then (Q (-11) A17 G18 k19) else (if g32 (A17 5 ((A17 22 ((A17 8 o 8).toNat) a0.toNat).toNat) 2) then (if (A17 5 ((A17 22 ((A17 8 o 8).toNat) a0.toNat).toNat) 2) ≤ 10 then (if g32 a3 then (if a3 = 0 then (∃ q37, f_CS_firstOtherwise A17 o ((A17 22 ((A17 8 o 8).toNat) a0.toNat).toNat) r16.toNat a2 = some q37 ∧ (Q q37.1 q37.2 G18 k19)) else if a3 = 1 then (w_CS_programsThatTell k19 G18 A17 o ((A17 22 ((A17 8 o 8).toNat) a0.toNat).toNat) a2 (fun r40 A41 G42 k43 => (Q r40 A41 G42 k43))) else if a3 = 2 then (∃ q49, f_CS_namesThatTell A17 o ((A17 22 ((A17 8 o 8).toNat) a0.toNat).toNat) r16.toNat = some q49 ∧ (Q q49.1 q49.2 G18 k19)) else (w_CS_startsThatTell k19 G18 A17 o ((A17 22 ((A17 8 o 8).toNat) a0.toNat).toNat) a1 a2 (fun r51 A52 G53 k54 => (Q r51 A52 G53 k54)))) else False) else (Q (-2) A17 G18 k19)) else False)) else False) else False)) else False) else (Q (-6) A17 G18 k19)))) else (Q (-2) q9.2 G0 k0))) else False)) else False))) else False))) else False))
theorem f_wx_CS_tells_0_1 : mblkB b_CS_tells [(0, .iload_n 1, vi 0)] = true := by decide +kernel
theorem e_wx_CS_tells_1 : decode b_CS_tells 1 = .ok (.invokestatic 200, 3) := by decide +kernel
theorem e_wx_CS_tells_4 : decode b_CS_tells 4 = .ok (.ifCond .eq 29, 3) := by decide +kernel
theorem f_wx_CS_tells_33_1 : mblkB b_CS_tells [(33, .bipush (-2), vi (-2))] = true := by decide +kernel
theorem e_wx_CS_tells_35 : decode b_CS_tells 35 = .ok (.ireturn, 1) := by decide +kernel
theorem f_wx_CS_tells_7_2 : mblkB b_CS_tells [(7, .aload_n 0, vi 0), (8, .iload_n 2, vi 0)] = true := by decide +kernel
theorem e_wx_CS_tells_9 : decode b_CS_tells 9 = .ok (.invokevirtual 94, 3) := by decide +kernel
theorem e_wx_CS_tells_12 : decode b_CS_tells 12 = .ok (.ifCond .eq 21, 3) := by decide +kernel
theorem f_wx_CS_tells_15_1 : mblkB b_CS_tells [(15, .iload_n 3, vi 0)] = true := by decide +kernel
theorem e_wx_CS_tells_16 : decode b_CS_tells 16 = .ok (.invokestatic 77, 3) := by decide +kernel
theorem e_wx_CS_tells_19 : decode b_CS_tells 19 = .ok (.ifCond .eq 14, 3) := by decide +kernel
theorem f_wx_CS_tells_22_1 : mblkB b_CS_tells [(22, .iload 4, vi 0)] = true := by decide +kernel
theorem e_wx_CS_tells_24 : decode b_CS_tells 24 = .ok (.ifCond .lt 9, 3) := by decide +kernel
theorem f_wx_CS_tells_27_2 : mblkB b_CS_tells [(27, .iload 4, vi 0), (29, .iconst 3, vi 3)] = true := by decide +kernel
theorem e_wx_CS_tells_30 : decode b_CS_tells 30 = .ok (.if_icmp .le 6, 3) := by decide +kernel
theorem f_wx_CS_tells_36_2 : mblkB b_CS_tells [(36, .aload_n 0, vi 0), (37, .iload_n 2, vi 0)] = true := by decide +kernel
theorem e_wx_CS_tells_38 : decode b_CS_tells 38 = .ok (.invokevirtual 107, 3) := by decide +kernel
theorem f_wx_CS_tells_41_2 : mblkB b_CS_tells [(41, .astore 5, vi 0), (43, .aload 5, vi 0)] = true := by decide +kernel
theorem e_wx_CS_tells_45 : decode b_CS_tells 45 = .ok (.ifnull 11, 3) := by decide +kernel
theorem f_wx_CS_tells_48_1 : mblkB b_CS_tells [(48, .aload 5, vi 0)] = true := by decide +kernel
theorem e_wx_CS_tells_50 : decode b_CS_tells 50 = .ok (.getfield 111, 3) := by decide +kernel
theorem e_wx_CS_tells_53 : decode b_CS_tells 53 = .ok (.ifCond .ne 16, 3) := by decide +kernel
theorem f_wx_CS_tells_69_1 : mblkB b_CS_tells [(69, .aload_n 0, vi 0)] = true := by decide +kernel
theorem e_wx_CS_tells_70 : decode b_CS_tells 70 = .ok (.getfield 21, 3) := by decide +kernel
theorem f_wx_CS_tells_73_1 : mblkB b_CS_tells [(73, .iload_n 1, vi 0)] = true := by decide +kernel
theorem e_wx_CS_tells_74 : decode b_CS_tells 74 = .ok (.aaload, 1) := by decide +kernel
theorem f_wx_CS_tells_75_2 : mblkB b_CS_tells [(75, .astore 6, vi 0), (77, .aload 6, vi 0)] = true := by decide +kernel
theorem e_wx_CS_tells_79 : decode b_CS_tells 79 = .ok (.getfield 203, 3) := by decide +kernel
theorem f_wx_CS_tells_82_1 : mblkB b_CS_tells [(82, .iconst (-1), vi (-1))] = true := by decide +kernel
theorem e_wx_CS_tells_83 : decode b_CS_tells 83 = .ok (.if_icmp .ne 6, 3) := by decide +kernel
theorem f_wx_CS_tells_89_1 : mblkB b_CS_tells [(89, .aload 6, vi 0)] = true := by decide +kernel
theorem e_wx_CS_tells_91 : decode b_CS_tells 91 = .ok (.getfield 206, 3) := by decide +kernel
theorem f_wx_CS_tells_94_1 : mblkB b_CS_tells [(94, .bipush 10, vi 10)] = true := by decide +kernel
theorem e_wx_CS_tells_96 : decode b_CS_tells 96 = .ok (.if_icmp .le 6, 3) := by decide +kernel
theorem f_wx_CS_tells_102_1 : mblkB b_CS_tells [(102, .iload 4, vi 0)] = true := by decide +kernel
theorem e_wx_CS_tells_104 : decode b_CS_tells 104 = .ok (.tableswitch 55 0 2 #[28, 38, 46], 28) := by decide +kernel
theorem f_wx_CS_tells_132_4 : mblkB b_CS_tells [(132, .aload_n 0, vi 0), (133, .aload 6, vi 0), (135, .aload 5, vi 0), (137, .iload_n 3, vi 0)] = true := by decide +kernel
theorem e_wx_CS_tells_138 : decode b_CS_tells 138 = .ok (.invokevirtual 207, 3) := by decide +kernel
theorem e_wx_CS_tells_141 : decode b_CS_tells 141 = .ok (.ireturn, 1) := by decide +kernel
theorem f_wx_CS_tells_142_3 : mblkB b_CS_tells [(142, .aload_n 0, vi 0), (143, .aload 6, vi 0), (145, .iload_n 3, vi 0)] = true := by decide +kernel
theorem e_wx_CS_tells_146 : decode b_CS_tells 146 = .ok (.invokevirtual 211, 3) := by decide +kernel
theorem e_wx_CS_tells_149 : decode b_CS_tells 149 = .ok (.ireturn, 1) := by decide +kernel
theorem f_wx_CS_tells_150_3 : mblkB b_CS_tells [(150, .aload_n 0, vi 0), (151, .aload 6, vi 0), (153, .aload 5, vi 0)] = true := by decide +kernel
theorem e_wx_CS_tells_155 : decode b_CS_tells 155 = .ok (.invokevirtual 215, 3) := by decide +kernel
theorem e_wx_CS_tells_158 : decode b_CS_tells 158 = .ok (.ireturn, 1) := by decide +kernel
theorem f_wx_CS_tells_159_4 : mblkB b_CS_tells [(159, .aload_n 0, vi 0), (160, .aload 6, vi 0), (162, .iload_n 2, vi 0), (163, .iload_n 3, vi 0)] = true := by decide +kernel
theorem e_wx_CS_tells_164 : decode b_CS_tells 164 = .ok (.invokevirtual 219, 3) := by decide +kernel
theorem e_wx_CS_tells_167 : decode b_CS_tells 167 = .ok (.ireturn, 1) := by decide +kernel
theorem f_wx_CS_tells_99_1 : mblkB b_CS_tells [(99, .bipush (-2), vi (-2))] = true := by decide +kernel
theorem e_wx_CS_tells_101 : decode b_CS_tells 101 = .ok (.ireturn, 1) := by decide +kernel
theorem f_wx_CS_tells_86_1 : mblkB b_CS_tells [(86, .bipush (-11), vi (-11))] = true := by decide +kernel
theorem e_wx_CS_tells_88 : decode b_CS_tells 88 = .ok (.ireturn, 1) := by decide +kernel
theorem f_wx_CS_tells_56_1 : mblkB b_CS_tells [(56, .aload 5, vi 0)] = true := by decide +kernel
theorem e_wx_CS_tells_58 : decode b_CS_tells 58 = .ok (.ifnonnull 8, 3) := by decide +kernel
theorem f_wx_CS_tells_66_1 : mblkB b_CS_tells [(66, .bipush (-7), vi (-7))] = true := by decide +kernel
theorem e_wx_CS_tells_68 : decode b_CS_tells 68 = .ok (.ireturn, 1) := by decide +kernel
theorem f_wx_CS_tells_61_2 : mblkB b_CS_tells [(61, .bipush (-6), vi (-6)), (63, .goto 5, vi 68)] = true := by decide +kernel
set_option maxHeartbeats 4000000 in
set_option maxRecDepth 20000 in
theorem wx_CS_tells  : ∀ (l : Launch) (D : va_G) (B : Nat) (H0 : Heap) (G0 : tG) (k0 : Nat) (A : mA) (o : Nat) (a0 : Int) (a1 : Int) (a2 : Int) (a3 : Int) (h_o : G0 o = some 8)  (Q : wQ), w_CS_tells  k0 G0 A o a0 a1 a2 a3 Q → wMet l D B H0 G0 k0 y_CS_tells b_CS_tells 7 (some .int) 465 15141 1 [vr 8 o, vi a0, vi a1, vi a2, vi a3] A Q := by
  intro l D B H0 G0 k0 A o a0 a1 a2 a3 h_o Q h
  refine w_met (by decide) rfl (fun g q0 C Rm Y E => ?_)
  show HM g D G0 q0 A 0 [(0, vr 8 o), (1, vi a0), (2, vi a1), (3, vi a2), (4, vi a3)] []
  unfold w_CS_tells at h
  refine h_blk 1 [(0, vr 8 o), (1, vi a0), (2, vi a1), (3, vi a2), (4, vi a3)] [vi a0] C f_wx_CS_tells_0_1 rfl ?_
  obtain ⟨q1, e2, h⟩ := h
  refine w_callS C Rm Y wb.rfl' [vi a0] [] (hx_CS_isSheet l D B H0 G0 _ a0 _ _ e2) cl_CS_200 e_wx_CS_tells_1 rfl rfl rfl ⟨by decide, by decide⟩ ?_
  rintro _ _ ⟨rfl, rfl⟩
  show HM g D G0 q0 q1.2 4 [(0, vr 8 o), (1, vi a0), (2, vi a1), (3, vi a2), (4, vi a3)] [vi q1.1]
  obtain ⟨c3, h⟩ := wgd h
  refine h_if_eq (tgt := 33) C e_wx_CS_tells_4 (by decide) c3 (fun c4 => ?_) (fun c4 => ?_)
  · have h := wfp c4 h
    refine h_blk 35 [(0, vr 8 o), (1, vi a0), (2, vi a1), (3, vi a2), (4, vi a3)] [vi (-2)] C f_wx_CS_tells_33_1 rfl ?_
    exact w_iret C Rm E (fun _ _ z => z) wb.rfl' e_wx_CS_tells_35 h
  · have h := wfn c4 h
    refine h_blk 9 [(0, vr 8 o), (1, vi a0), (2, vi a1), (3, vi a2), (4, vi a3)] [vi a1, vr 8 o] C f_wx_CS_tells_7_2 rfl ?_
    obtain ⟨q5, e6, h⟩ := h
    refine w_callV C Rm Y wb.rfl' [vi a1] [] (hx_CS_isProgram l D B H0 G0 _ o a1 h_o _ _ e6) cl_CS_94 h_o rfl rfl rfl e_wx_CS_tells_9 rfl rfl rfl ⟨by decide, by decide⟩ ?_
    rintro _ _ ⟨rfl, rfl⟩
    show HM g D G0 q0 q5.2 12 [(0, vr 8 o), (1, vi a0), (2, vi a1), (3, vi a2), (4, vi a3)] [vi q5.1]
    obtain ⟨c7, h⟩ := wgd h
    refine h_if_eq (tgt := 33) C e_wx_CS_tells_12 (by decide) c7 (fun c8 => ?_) (fun c8 => ?_)
    · have h := wfp c8 h
      refine h_blk 35 [(0, vr 8 o), (1, vi a0), (2, vi a1), (3, vi a2), (4, vi a3)] [vi (-2)] C f_wx_CS_tells_33_1 rfl ?_
      exact w_iret C Rm E (fun _ _ z => z) wb.rfl' e_wx_CS_tells_35 h
    · have h := wfn c8 h
      refine h_blk 16 [(0, vr 8 o), (1, vi a0), (2, vi a1), (3, vi a2), (4, vi a3)] [vi a2] C f_wx_CS_tells_15_1 rfl ?_
      obtain ⟨q9, e10, h⟩ := h
      refine w_callS C Rm Y wb.rfl' [vi a2] [] (hx_CS_isName l D B H0 G0 _ a2 _ _ e10) cl_CS_77 e_wx_CS_tells_16 rfl rfl rfl ⟨by decide, by decide⟩ ?_
      rintro _ _ ⟨rfl, rfl⟩
      show HM g D G0 q0 q9.2 19 [(0, vr 8 o), (1, vi a0), (2, vi a1), (3, vi a2), (4, vi a3)] [vi q9.1]
      obtain ⟨c11, h⟩ := wgd h
      refine h_if_eq (tgt := 33) C e_wx_CS_tells_19 (by decide) c11 (fun c12 => ?_) (fun c12 => ?_)
      · have h := wfp c12 h
        refine h_blk 35 [(0, vr 8 o), (1, vi a0), (2, vi a1), (3, vi a2), (4, vi a3)] [vi (-2)] C f_wx_CS_tells_33_1 rfl ?_
        exact w_iret C Rm E (fun _ _ z => z) wb.rfl' e_wx_CS_tells_35 h
      · have h := wfn c12 h
        refine h_blk 24 [(0, vr 8 o), (1, vi a0), (2, vi a1), (3, vi a2), (4, vi a3)] [vi a3] C f_wx_CS_tells_22_1 rfl ?_
        obtain ⟨c13, h⟩ := wgd h
        refine h_if_lt (tgt := 33) C e_wx_CS_tells_24 (by decide) c13 (fun c14 => ?_) (fun c14 => ?_)
        · have h := wfp c14 h
          refine h_blk 35 [(0, vr 8 o), (1, vi a0), (2, vi a1), (3, vi a2), (4, vi a3)] [vi (-2)] C f_wx_CS_tells_33_1 rfl ?_
          exact w_iret C Rm E (fun _ _ z => z) wb.rfl' e_wx_CS_tells_35 h
        · have h := wfn c14 h
          refine h_blk 30 [(0, vr 8 o), (1, vi a0), (2, vi a1), (3, vi a2), (4, vi a3)] [vi 3, vi a3] C f_wx_CS_tells_27_2 rfl ?_
          refine h_icmp_le (tgt := 36) C e_wx_CS_tells_30 (by decide) c13 (by decide) (fun c15 => ?_) (fun c15 => ?_)
          · have h := wfp c15 h
            refine h_blk 38 [(0, vr 8 o), (1, vi a0), (2, vi a1), (3, vi a2), (4, vi a3)] [vi a1, vr 8 o] C f_wx_CS_tells_36_2 rfl ?_
            refine w_wV C Rm Y wb.rfl' [vi a1] [] (wx_CS_endOf l D B H0 G0 k0 _ o a1 h_o _ h) cl_CS_107 h_o rfl rfl rfl e_wx_CS_tells_38 rfl rfl rfl ⟨by decide, by decide⟩ (fun r16 A17 G18 k19 q20 p21 y22 b23 => ?_)
            have h := p21
            refine wk3 (fun c24 g25 => ?_) (fun c24 => ?_)
            · have h := wfp c24 h
              refine h_blk 45 [(5, vr 0 r16.toNat), (0, vr 8 o), (1, vi a0), (2, vi a1), (3, vi a2), (4, vi a3)] [vr 0 r16.toNat] C f_wx_CS_tells_41_2 rfl ?_
              refine h_ifnull C e_wx_CS_tells_45 ?_
              refine h_blk 50 [(5, vr 0 r16.toNat), (0, vr 8 o), (1, vi a0), (2, vi a1), (3, vi a2), (4, vi a3)] [vr 0 r16.toNat] C f_wx_CS_tells_48_1 rfl ?_
              refine h_geti C e_wx_CS_tells_50 fg_CS_111 g25 rfl rfl rfl (A17 0 r16.toNat 2) rfl ?_
              obtain ⟨c26, h⟩ := wgd h
              refine h_if_ne (tgt := 69) C e_wx_CS_tells_53 (by decide) c26 (fun c27 => ?_) (fun c27 => ?_)
              · have h := wfn c27 h
                refine h_blk 70 [(5, vr 0 r16.toNat), (0, vr 8 o), (1, vi a0), (2, vi a1), (3, vi a2), (4, vi a3)] [vr 8 o] C f_wx_CS_tells_69_1 rfl ?_
                refine h_getr4 C e_wx_CS_tells_70 fg_CS_21 (y22 _ _ h_o) rfl rfl rfl rfl (fun g28 => ?_)
                refine h_blk 74 [(5, vr 0 r16.toNat), (0, vr 8 o), (1, vi a0), (2, vi a1), (3, vi a2), (4, vi a3)] [vi a0, vr 22 ((A17 8 o 8).toNat)] C f_wx_CS_tells_73_1 rfl ?_
                obtain ⟨c29, h⟩ := wgd h
                refine h_aald4 C e_wx_CS_tells_74 rfl rfl g28 rfl rfl rfl rfl (by decide) c29.1 c29.2 (fun g30 => ?_)
                refine h_blk 79 [(6, vr 5 ((A17 22 ((A17 8 o 8).toNat) a0.toNat).toNat)), (5, vr 0 r16.toNat), (0, vr 8 o), (1, vi a0), (2, vi a1), (3, vi a2), (4, vi a3)] [vr 5 ((A17 22 ((A17 8 o 8).toNat) a0.toNat).toNat)] C f_wx_CS_tells_75_2 rfl ?_
                refine h_geti C e_wx_CS_tells_79 fg_CS_203 g30 rfl rfl rfl (A17 5 ((A17 22 ((A17 8 o 8).toNat) a0.toNat).toNat) 1) rfl ?_
                refine h_blk 83 [(6, vr 5 ((A17 22 ((A17 8 o 8).toNat) a0.toNat).toNat)), (5, vr 0 r16.toNat), (0, vr 8 o), (1, vi a0), (2, vi a1), (3, vi a2), (4, vi a3)] [vi (-1), vi (A17 5 ((A17 22 ((A17 8 o 8).toNat) a0.toNat).toNat) 1)] C f_wx_CS_tells_82_1 rfl ?_
                obtain ⟨c31, h⟩ := wgd h
                refine h_icmp_ne (tgt := 89) C e_wx_CS_tells_83 (by decide) c31 (by decide) (fun c32 => ?_) (fun c32 => ?_)
                · have h := wfn c32 h
                  refine h_blk 91 [(6, vr 5 ((A17 22 ((A17 8 o 8).toNat) a0.toNat).toNat)), (5, vr 0 r16.toNat), (0, vr 8 o), (1, vi a0), (2, vi a1), (3, vi a2), (4, vi a3)] [vr 5 ((A17 22 ((A17 8 o 8).toNat) a0.toNat).toNat)] C f_wx_CS_tells_89_1 rfl ?_
                  refine h_geti C e_wx_CS_tells_91 fg_CS_206 g30 rfl rfl rfl (A17 5 ((A17 22 ((A17 8 o 8).toNat) a0.toNat).toNat) 2) rfl ?_
                  refine h_blk 96 [(6, vr 5 ((A17 22 ((A17 8 o 8).toNat) a0.toNat).toNat)), (5, vr 0 r16.toNat), (0, vr 8 o), (1, vi a0), (2, vi a1), (3, vi a2), (4, vi a3)] [vi 10, vi (A17 5 ((A17 22 ((A17 8 o 8).toNat) a0.toNat).toNat) 2)] C f_wx_CS_tells_94_1 rfl ?_
                  obtain ⟨c33, h⟩ := wgd h
                  refine h_icmp_le (tgt := 102) C e_wx_CS_tells_96 (by decide) c33 (by decide) (fun c34 => ?_) (fun c34 => ?_)
                  · have h := wfp c34 h
                    refine h_blk 104 [(6, vr 5 ((A17 22 ((A17 8 o 8).toNat) a0.toNat).toNat)), (5, vr 0 r16.toNat), (0, vr 8 o), (1, vi a0), (2, vi a1), (3, vi a2), (4, vi a3)] [vi a3] C f_wx_CS_tells_102_1 rfl ?_
                    obtain ⟨c35, h⟩ := wgd h
                    by_cases c36 : a3 = 0
                    · have h := wfp c36 h
                      refine h_tabIn (tgt := 132) C e_wx_CS_tells_104 c35 (by omega) (by omega) (by rw [c36]; rfl) (by decide) ?_
                      refine h_blk 138 [(6, vr 5 ((A17 22 ((A17 8 o 8).toNat) a0.toNat).toNat)), (5, vr 0 r16.toNat), (0, vr 8 o), (1, vi a0), (2, vi a1), (3, vi a2), (4, vi a3)] [vi a2, vr 0 r16.toNat, vr 5 ((A17 22 ((A17 8 o 8).toNat) a0.toNat).toNat), vr 8 o] C f_wx_CS_tells_132_4 rfl ?_
                      obtain ⟨q37, e38, h⟩ := h
                      refine w_callV C Rm Y b23 [vr 5 ((A17 22 ((A17 8 o 8).toNat) a0.toNat).toNat), vr 0 r16.toNat, vi a2] [] (hx_CS_firstOtherwise l D B H0 G18 _ o ((A17 22 ((A17 8 o 8).toNat) a0.toNat).toNat) r16.toNat a2 (y22 _ _ h_o) g30 g25 _ _ e38) cl_CS_207 (y22 _ _ h_o) rfl rfl rfl e_wx_CS_tells_138 rfl rfl rfl ⟨by decide, by decide⟩ ?_
                      rintro _ _ ⟨rfl, rfl⟩
                      show HM g D G18 q20 q37.2 141 [(6, vr 5 ((A17 22 ((A17 8 o 8).toNat) a0.toNat).toNat)), (5, vr 0 r16.toNat), (0, vr 8 o), (1, vi a0), (2, vi a1), (3, vi a2), (4, vi a3)] [vi q37.1]
                      exact w_iret C Rm E (fun a τ z => y22 a τ ((fun _ _ z => z) a τ z)) b23 e_wx_CS_tells_141 h
                    have h := wfn c36 h
                    by_cases c39 : a3 = 1
                    · have h := wfp c39 h
                      refine h_tabIn (tgt := 142) C e_wx_CS_tells_104 c35 (by omega) (by omega) (by rw [c39]; rfl) (by decide) ?_
                      refine h_blk 146 [(6, vr 5 ((A17 22 ((A17 8 o 8).toNat) a0.toNat).toNat)), (5, vr 0 r16.toNat), (0, vr 8 o), (1, vi a0), (2, vi a1), (3, vi a2), (4, vi a3)] [vi a2, vr 5 ((A17 22 ((A17 8 o 8).toNat) a0.toNat).toNat), vr 8 o] C f_wx_CS_tells_142_3 rfl ?_
                      refine w_wV C Rm Y b23 [vr 5 ((A17 22 ((A17 8 o 8).toNat) a0.toNat).toNat), vi a2] [] (wx_CS_programsThatTell l D B H0 G18 k19 _ o ((A17 22 ((A17 8 o 8).toNat) a0.toNat).toNat) a2 (y22 _ _ h_o) g30 _ h) cl_CS_211 (y22 _ _ h_o) rfl rfl rfl e_wx_CS_tells_146 rfl rfl rfl ⟨by decide, by decide⟩ (fun r40 A41 G42 k43 q44 p45 y46 b47 => ?_)
                      have h := p45
                      refine wk1 ?_
                      exact w_iret C Rm E (fun a τ z => y46 a τ ((fun a τ z => y22 a τ ((fun _ _ z => z) a τ z)) a τ z)) b47 e_wx_CS_tells_149 h
                    have h := wfn c39 h
                    by_cases c48 : a3 = 2
                    · have h := wfp c48 h
                      refine h_tabIn (tgt := 150) C e_wx_CS_tells_104 c35 (by omega) (by omega) (by rw [c48]; rfl) (by decide) ?_
                      refine h_blk 155 [(6, vr 5 ((A17 22 ((A17 8 o 8).toNat) a0.toNat).toNat)), (5, vr 0 r16.toNat), (0, vr 8 o), (1, vi a0), (2, vi a1), (3, vi a2), (4, vi a3)] [vr 0 r16.toNat, vr 5 ((A17 22 ((A17 8 o 8).toNat) a0.toNat).toNat), vr 8 o] C f_wx_CS_tells_150_3 rfl ?_
                      obtain ⟨q49, e50, h⟩ := h
                      refine w_callV C Rm Y b23 [vr 5 ((A17 22 ((A17 8 o 8).toNat) a0.toNat).toNat), vr 0 r16.toNat] [] (hx_CS_namesThatTell l D B H0 G18 _ o ((A17 22 ((A17 8 o 8).toNat) a0.toNat).toNat) r16.toNat (y22 _ _ h_o) g30 g25 _ _ e50) cl_CS_215 (y22 _ _ h_o) rfl rfl rfl e_wx_CS_tells_155 rfl rfl rfl ⟨by decide, by decide⟩ ?_
                      rintro _ _ ⟨rfl, rfl⟩
                      show HM g D G18 q20 q49.2 158 [(6, vr 5 ((A17 22 ((A17 8 o 8).toNat) a0.toNat).toNat)), (5, vr 0 r16.toNat), (0, vr 8 o), (1, vi a0), (2, vi a1), (3, vi a2), (4, vi a3)] [vi q49.1]
                      exact w_iret C Rm E (fun a τ z => y22 a τ ((fun _ _ z => z) a τ z)) b23 e_wx_CS_tells_158 h
                    have h := wfn c48 h
                    refine h_tabOut (tgt := 159) C e_wx_CS_tells_104 c35 (by omega) (by decide) ?_
                    refine h_blk 164 [(6, vr 5 ((A17 22 ((A17 8 o 8).toNat) a0.toNat).toNat)), (5, vr 0 r16.toNat), (0, vr 8 o), (1, vi a0), (2, vi a1), (3, vi a2), (4, vi a3)] [vi a2, vi a1, vr 5 ((A17 22 ((A17 8 o 8).toNat) a0.toNat).toNat), vr 8 o] C f_wx_CS_tells_159_4 rfl ?_
                    refine w_wV C Rm Y b23 [vr 5 ((A17 22 ((A17 8 o 8).toNat) a0.toNat).toNat), vi a1, vi a2] [] (wx_CS_startsThatTell l D B H0 G18 k19 _ o ((A17 22 ((A17 8 o 8).toNat) a0.toNat).toNat) a1 a2 (y22 _ _ h_o) g30 _ h) cl_CS_219 (y22 _ _ h_o) rfl rfl rfl e_wx_CS_tells_164 rfl rfl rfl ⟨by decide, by decide⟩ (fun r51 A52 G53 k54 q55 p56 y57 b58 => ?_)
                    have h := p56
                    refine wk1 ?_
                    exact w_iret C Rm E (fun a τ z => y57 a τ ((fun a τ z => y22 a τ ((fun _ _ z => z) a τ z)) a τ z)) b58 e_wx_CS_tells_167 h
                  · have h := wfn c34 h
                    refine h_blk 101 [(6, vr 5 ((A17 22 ((A17 8 o 8).toNat) a0.toNat).toNat)), (5, vr 0 r16.toNat), (0, vr 8 o), (1, vi a0), (2, vi a1), (3, vi a2), (4, vi a3)] [vi (-2)] C f_wx_CS_tells_99_1 rfl ?_
                    exact w_iret C Rm E (fun a τ z => y22 a τ ((fun _ _ z => z) a τ z)) b23 e_wx_CS_tells_101 h
                · have h := wfp c32 h
                  refine h_blk 88 [(6, vr 5 ((A17 22 ((A17 8 o 8).toNat) a0.toNat).toNat)), (5, vr 0 r16.toNat), (0, vr 8 o), (1, vi a0), (2, vi a1), (3, vi a2), (4, vi a3)] [vi (-11)] C f_wx_CS_tells_86_1 rfl ?_
                  exact w_iret C Rm E (fun a τ z => y22 a τ ((fun _ _ z => z) a τ z)) b23 e_wx_CS_tells_88 h
              · have h := wfp c27 h
                refine h_blk 58 [(5, vr 0 r16.toNat), (0, vr 8 o), (1, vi a0), (2, vi a1), (3, vi a2), (4, vi a3)] [vr 0 r16.toNat] C f_wx_CS_tells_56_1 rfl ?_
                refine h_ifnonnull (tgt := 66) C e_wx_CS_tells_58 (by decide) ?_
                refine h_blk 68 [(5, vr 0 r16.toNat), (0, vr 8 o), (1, vi a0), (2, vi a1), (3, vi a2), (4, vi a3)] [vi (-7)] C f_wx_CS_tells_66_1 rfl ?_
                exact w_iret C Rm E (fun a τ z => y22 a τ ((fun _ _ z => z) a τ z)) b23 e_wx_CS_tells_68 h
            · have h := wfn (by omega)  h
              refine h_blk 45 [(5, vn), (0, vr 8 o), (1, vi a0), (2, vi a1), (3, vi a2), (4, vi a3)] [vn] C f_wx_CS_tells_41_2 rfl ?_
              refine wn_ifnull (tgt := 56) C e_wx_CS_tells_45 (by decide) ?_
              refine h_blk 58 [(5, vn), (0, vr 8 o), (1, vi a0), (2, vi a1), (3, vi a2), (4, vi a3)] [vn] C f_wx_CS_tells_56_1 rfl ?_
              refine wn_ifnonnull C e_wx_CS_tells_58 ?_
              refine h_blk 68 [(5, vn), (0, vr 8 o), (1, vi a0), (2, vi a1), (3, vi a2), (4, vi a3)] [vi (-6)] C f_wx_CS_tells_61_2 rfl ?_
              exact w_iret C Rm E (fun a τ z => y22 a τ ((fun _ _ z => z) a τ z)) b23 e_wx_CS_tells_68 h
          · have h := wfn c15 h
            refine h_blk 35 [(0, vr 8 o), (1, vi a0), (2, vi a1), (3, vi a2), (4, vi a3)] [vi (-2)] C f_wx_CS_tells_33_1 rfl ?_
            exact w_iret C Rm E (fun _ _ z => z) wb.rfl' e_wx_CS_tells_35 h

def w_CS_film_87 : Nat → Nat → tG → mA → Nat → Nat → Nat → Int → wQ → Prop
  | 0, _, _, _, _, _, _, _, _ => False
  | n + 1, k, G, A, b0, b4, b5, b6, Q => (if g32 b6 then (if 10 ≤ b6 then (Q 10 A G k) else (if (0 ≤ b6 ∧ b6 < ((10 : Nat) : Int)) then (∃ q5, f_Crowd_weight A b4 = some q5 ∧ (∃ q7, f_CS_hundredths q5.2 (A 23 ((A 8 b0 11).toNat) b6.toNat) q5.1 = some q7 ∧ (∃ q9, f_Sheet_write q7.2 b5 b6 q7.1 = some q9 ∧ (w_CS_film_87  n k G q9.2 b0 b4 b5 (b6 + 1) Q)))) else False)) else False)
def w_CS_film (k0 : Nat) (G0 : tG) (A : mA) (o : Nat) (a0 : Int) (a1 : Int) (a2 : Int) (Q : wQ) : Prop := (∃ q11, f_CS_isSheet A a0 = some q11 ∧ (if g32 q11.1 then (if q11.1 = 0 then (Q (-2) q11.2 G0 k0) else (∃ q15, f_CS_isProgram q11.2 o a1 = some q15 ∧ (if g32 q15.1 then (if q15.1 = 0 then (Q (-2) q15.2 G0 k0) else (∃ q19, f_CS_isName q15.2 a2 = some q19 ∧ (if g32 q19.1 then (if q19.1 = 0 then (Q (-2) q19.2 G0 k0) else (w_CS_endOf k0 G0 q19.2 o a1 (fun r23 A24 G25 k26 => (if 0 ≤ r23 then (if g32 (A24 0 r23.toNat 2) then (if (A24 0 r23.toNat 2) = 0 then (Q (-7) A24 G25 k26) else (∃ q36, f_Crowd_spread A24 r23.toNat a2 ((A24 8 o 11).toNat) = some q36 ∧ (if (0 ≤ a0 ∧ a0 < ((4 : Nat) : Int)) then (∃ q41, f_Sheet_become q36.2 ((q36.2 22 ((q36.2 8 o 8).toNat) a0.toNat).toNat) 0 10 = some q41 ∧ (w_CS_film_87  20 k26 G25 q41.2 o r23.toNat ((q36.2 22 ((q36.2 8 o 8).toNat) a0.toNat).toNat) 0 Q)) else False))) else False) else (Q (-6) A24 G25 k26))))) else False))) else False))) else False))
theorem f_wx_CS_film_0_1 : mblkB b_CS_film [(0, .iload_n 1, vi 0)] = true := by decide +kernel
theorem e_wx_CS_film_1 : decode b_CS_film 1 = .ok (.invokestatic 200, 3) := by decide +kernel
theorem e_wx_CS_film_4 : decode b_CS_film 4 = .ok (.ifCond .eq 18, 3) := by decide +kernel
theorem f_wx_CS_film_22_1 : mblkB b_CS_film [(22, .bipush (-2), vi (-2))] = true := by decide +kernel
theorem e_wx_CS_film_24 : decode b_CS_film 24 = .ok (.ireturn, 1) := by decide +kernel
theorem f_wx_CS_film_7_2 : mblkB b_CS_film [(7, .aload_n 0, vi 0), (8, .iload_n 2, vi 0)] = true := by decide +kernel
theorem e_wx_CS_film_9 : decode b_CS_film 9 = .ok (.invokevirtual 94, 3) := by decide +kernel
theorem e_wx_CS_film_12 : decode b_CS_film 12 = .ok (.ifCond .eq 10, 3) := by decide +kernel
theorem f_wx_CS_film_15_1 : mblkB b_CS_film [(15, .iload_n 3, vi 0)] = true := by decide +kernel
theorem e_wx_CS_film_16 : decode b_CS_film 16 = .ok (.invokestatic 77, 3) := by decide +kernel
theorem e_wx_CS_film_19 : decode b_CS_film 19 = .ok (.ifCond .ne 6, 3) := by decide +kernel
theorem f_wx_CS_film_25_2 : mblkB b_CS_film [(25, .aload_n 0, vi 0), (26, .iload_n 2, vi 0)] = true := by decide +kernel
theorem e_wx_CS_film_27 : decode b_CS_film 27 = .ok (.invokevirtual 107, 3) := by decide +kernel
theorem f_wx_CS_film_30_2 : mblkB b_CS_film [(30, .astore 4, vi 0), (32, .aload 4, vi 0)] = true := by decide +kernel
theorem e_wx_CS_film_34 : decode b_CS_film 34 = .ok (.ifnull 11, 3) := by decide +kernel
theorem f_wx_CS_film_37_1 : mblkB b_CS_film [(37, .aload 4, vi 0)] = true := by decide +kernel
theorem e_wx_CS_film_39 : decode b_CS_film 39 = .ok (.getfield 111, 3) := by decide +kernel
theorem e_wx_CS_film_42 : decode b_CS_film 42 = .ok (.ifCond .ne 16, 3) := by decide +kernel
theorem f_wx_CS_film_58_3 : mblkB b_CS_film [(58, .aload 4, vi 0), (60, .iload_n 3, vi 0), (61, .aload_n 0, vi 0)] = true := by decide +kernel
theorem e_wx_CS_film_62 : decode b_CS_film 62 = .ok (.getfield 39, 3) := by decide +kernel
theorem e_wx_CS_film_65 : decode b_CS_film 65 = .ok (.invokevirtual 155, 3) := by decide +kernel
theorem f_wx_CS_film_68_1 : mblkB b_CS_film [(68, .aload_n 0, vi 0)] = true := by decide +kernel
theorem e_wx_CS_film_69 : decode b_CS_film 69 = .ok (.getfield 21, 3) := by decide +kernel
theorem f_wx_CS_film_72_1 : mblkB b_CS_film [(72, .iload_n 1, vi 0)] = true := by decide +kernel
theorem e_wx_CS_film_73 : decode b_CS_film 73 = .ok (.aaload, 1) := by decide +kernel
theorem f_wx_CS_film_74_4 : mblkB b_CS_film [(74, .astore 5, vi 0), (76, .aload 5, vi 0), (78, .iconst 0, vi 0), (79, .bipush 10, vi 10)] = true := by decide +kernel
theorem e_wx_CS_film_81 : decode b_CS_film 81 = .ok (.invokevirtual 223, 3) := by decide +kernel
theorem f_wx_CS_film_84_2 : mblkB b_CS_film [(84, .iconst 0, vi 0), (85, .istore 6, vi 0)] = true := by decide +kernel
theorem f_wx_CS_film_45_1 : mblkB b_CS_film [(45, .aload 4, vi 0)] = true := by decide +kernel
theorem e_wx_CS_film_47 : decode b_CS_film 47 = .ok (.ifnonnull 8, 3) := by decide +kernel
theorem f_wx_CS_film_55_1 : mblkB b_CS_film [(55, .bipush (-7), vi (-7))] = true := by decide +kernel
theorem e_wx_CS_film_57 : decode b_CS_film 57 = .ok (.ireturn, 1) := by decide +kernel
theorem f_wx_CS_film_50_2 : mblkB b_CS_film [(50, .bipush (-6), vi (-6)), (52, .goto 5, vi 57)] = true := by decide +kernel
theorem f_wx_CS_film_87_2 : mblkB b_CS_film [(87, .iload 6, vi 0), (89, .bipush 10, vi 10)] = true := by decide +kernel
theorem e_wx_CS_film_91 : decode b_CS_film 91 = .ok (.if_icmp .ge 31, 3) := by decide +kernel
theorem f_wx_CS_film_122_1 : mblkB b_CS_film [(122, .bipush 10, vi 10)] = true := by decide +kernel
theorem e_wx_CS_film_124 : decode b_CS_film 124 = .ok (.ireturn, 1) := by decide +kernel
theorem f_wx_CS_film_94_3 : mblkB b_CS_film [(94, .aload 5, vi 0), (96, .iload 6, vi 0), (98, .aload_n 0, vi 0)] = true := by decide +kernel
theorem e_wx_CS_film_99 : decode b_CS_film 99 = .ok (.getfield 39, 3) := by decide +kernel
theorem f_wx_CS_film_102_1 : mblkB b_CS_film [(102, .iload 6, vi 0)] = true := by decide +kernel
theorem e_wx_CS_film_104 : decode b_CS_film 104 = .ok (.laload, 1) := by decide +kernel
theorem f_wx_CS_film_105_1 : mblkB b_CS_film [(105, .aload 4, vi 0)] = true := by decide +kernel
theorem e_wx_CS_film_107 : decode b_CS_film 107 = .ok (.invokevirtual 145, 3) := by decide +kernel
theorem e_wx_CS_film_110 : decode b_CS_film 110 = .ok (.invokestatic 227, 3) := by decide +kernel
theorem e_wx_CS_film_113 : decode b_CS_film 113 = .ok (.invokevirtual 231, 3) := by decide +kernel
theorem f_wx_CS_film_116_2 : mblkB b_CS_film [(116, .iinc 6 1, vi 1), (119, .goto (-32), vi 87)] = true := by decide +kernel
set_option maxHeartbeats 4000000 in
set_option maxRecDepth 20000 in
theorem wx_CS_film  : ∀ (l : Launch) (D : va_G) (B : Nat) (H0 : Heap) (G0 : tG) (k0 : Nat) (A : mA) (o : Nat) (a0 : Int) (a1 : Int) (a2 : Int) (h_o : G0 o = some 8)  (Q : wQ), w_CS_film  k0 G0 A o a0 a1 a2 Q → wMet l D B H0 G0 k0 y_CS_film b_CS_film 7 (some .int) 465 15134 1 [vr 8 o, vi a0, vi a1, vi a2] A Q := by
  intro l D B H0 G0 k0 A o a0 a1 a2 h_o Q h
  refine w_met (by decide) rfl (fun g q0 C Rm Y E => ?_)
  have hd_87 : ∀ (n : Nat) (k : Nat) (G : tG) (q : Nat × Nat) (hgo : ∀ a τ, G0 a = some τ → G a = some τ) (hb : wb q0 k0 q k) (A : mA) (b0 : Nat) (b4 : Nat) (b5 : Nat) (b6 : Int) , G b0 = some 8 → G b4 = some 0 → G b5 = some 5 → w_CS_film_87   n k G A b0 b4 b5 b6 Q → HM g D G q A 87 [(0, vr 8 b0), (4, vr 0 b4), (5, vr 5 b5), (6, vi b6)] [] := by
    intro  n
    induction n with
    | zero => intro k G q hgo hb A b0 b4 b5 b6 h_b0 h_b4 h_b5 h; exact h.elim
    | succ n ih =>
      intro k G q hgo hb A b0 b4 b5 b6 h_b0 h_b4 h_b5 h
      unfold w_CS_film_87 at h
      refine h_blk 91 [(0, vr 8 b0), (4, vr 0 b4), (5, vr 5 b5), (6, vi b6)] [vi 10, vi b6] C f_wx_CS_film_87_2 rfl ?_
      obtain ⟨c1, h⟩ := wgd h
      refine h_icmp_ge (tgt := 122) C e_wx_CS_film_91 (by decide) c1 (by decide) (fun c2 => ?_) (fun c2 => ?_)
      · have h := wfp c2 h
        refine h_blk 124 [(0, vr 8 b0), (4, vr 0 b4), (5, vr 5 b5), (6, vi b6)] [vi 10] C f_wx_CS_film_122_1 rfl ?_
        exact w_iret C Rm E hgo hb e_wx_CS_film_124 h
      · have h := wfn c2 h
        refine h_blk 99 [(0, vr 8 b0), (4, vr 0 b4), (5, vr 5 b5), (6, vi b6)] [vr 8 b0, vi b6, vr 5 b5] C f_wx_CS_film_94_3 rfl ?_
        refine h_getr4 C e_wx_CS_film_99 fg_CS_39 h_b0 rfl rfl rfl rfl (fun g3 => ?_)
        refine h_blk 104 [(0, vr 8 b0), (4, vr 0 b4), (5, vr 5 b5), (6, vi b6)] [vi b6, vr 23 ((A 8 b0 11).toNat), vi b6, vr 5 b5] C f_wx_CS_film_102_1 rfl ?_
        obtain ⟨c4, h⟩ := wgd h
        refine h_lald C e_wx_CS_film_104 g3 rfl rfl (by decide) c4.1 c4.2 (A 23 ((A 8 b0 11).toNat) b6.toNat) rfl ?_
        refine h_blk 107 [(0, vr 8 b0), (4, vr 0 b4), (5, vr 5 b5), (6, vi b6)] [vr 0 b4, vl (A 23 ((A 8 b0 11).toNat) b6.toNat), vi b6, vr 5 b5] C f_wx_CS_film_105_1 rfl ?_
        obtain ⟨q5, e6, h⟩ := h
        refine w_callV C Rm Y hb [] [vl (A 23 ((A 8 b0 11).toNat) b6.toNat), vi b6, vr 5 b5] (hx_Crowd_weight l D B H0 G _ b4 h_b4 _ _ e6) cl_CS_145 h_b4 rfl rfl rfl e_wx_CS_film_107 rfl rfl rfl ⟨by decide, by decide⟩ ?_
        rintro _ _ ⟨rfl, rfl⟩
        show HM g D G q q5.2 110 [(0, vr 8 b0), (4, vr 0 b4), (5, vr 5 b5), (6, vi b6)] [vl q5.1, vl (A 23 ((A 8 b0 11).toNat) b6.toNat), vi b6, vr 5 b5]
        obtain ⟨q7, e8, h⟩ := h
        refine w_callS C Rm Y hb [vl (A 23 ((A 8 b0 11).toNat) b6.toNat), vl q5.1] [vi b6, vr 5 b5] (hx_CS_hundredths l D B H0 G _ (A 23 ((A 8 b0 11).toNat) b6.toNat) q5.1 _ _ e8) cl_CS_227 e_wx_CS_film_110 rfl rfl rfl ⟨by decide, by decide⟩ ?_
        rintro _ _ ⟨rfl, rfl⟩
        show HM g D G q q7.2 113 [(0, vr 8 b0), (4, vr 0 b4), (5, vr 5 b5), (6, vi b6)] [vi q7.1, vi b6, vr 5 b5]
        obtain ⟨q9, e10, h⟩ := h
        refine w_callV C Rm Y hb [vi b6, vi q7.1] [] (hx_Sheet_write l D B H0 G _ b5 b6 q7.1 h_b5 _ _ e10) cl_CS_231 h_b5 rfl rfl rfl e_wx_CS_film_113 rfl rfl rfl ⟨by decide, by decide⟩ ?_
        rintro _ _ ⟨rfl, rfl⟩
        show HM g D G q q9.2 116 [(0, vr 8 b0), (4, vr 0 b4), (5, vr 5 b5), (6, vi b6)] []
        refine h_blk 87 [(6, vi (b6 + 1)), (0, vr 8 b0), (4, vr 0 b4), (5, vr 5 b5)] [] C f_wx_CS_film_116_2 rfl ?_
        refine h_loc [(0, vr 8 b0), (4, vr 0 b4), (5, vr 5 b5), (6, vi (b6 + 1))] ⟨rfl, rfl, rfl, rfl, trivial⟩ ?_
        exact ih k G q hgo hb q9.2 b0 b4 b5 (b6 + 1) (h_b0) (h_b4) (h_b5) h
  show HM g D G0 q0 A 0 [(0, vr 8 o), (1, vi a0), (2, vi a1), (3, vi a2)] []
  unfold w_CS_film at h
  refine h_blk 1 [(0, vr 8 o), (1, vi a0), (2, vi a1), (3, vi a2)] [vi a0] C f_wx_CS_film_0_1 rfl ?_
  obtain ⟨q11, e12, h⟩ := h
  refine w_callS C Rm Y wb.rfl' [vi a0] [] (hx_CS_isSheet l D B H0 G0 _ a0 _ _ e12) cl_CS_200 e_wx_CS_film_1 rfl rfl rfl ⟨by decide, by decide⟩ ?_
  rintro _ _ ⟨rfl, rfl⟩
  show HM g D G0 q0 q11.2 4 [(0, vr 8 o), (1, vi a0), (2, vi a1), (3, vi a2)] [vi q11.1]
  obtain ⟨c13, h⟩ := wgd h
  refine h_if_eq (tgt := 22) C e_wx_CS_film_4 (by decide) c13 (fun c14 => ?_) (fun c14 => ?_)
  · have h := wfp c14 h
    refine h_blk 24 [(0, vr 8 o), (1, vi a0), (2, vi a1), (3, vi a2)] [vi (-2)] C f_wx_CS_film_22_1 rfl ?_
    exact w_iret C Rm E (fun _ _ z => z) wb.rfl' e_wx_CS_film_24 h
  · have h := wfn c14 h
    refine h_blk 9 [(0, vr 8 o), (1, vi a0), (2, vi a1), (3, vi a2)] [vi a1, vr 8 o] C f_wx_CS_film_7_2 rfl ?_
    obtain ⟨q15, e16, h⟩ := h
    refine w_callV C Rm Y wb.rfl' [vi a1] [] (hx_CS_isProgram l D B H0 G0 _ o a1 h_o _ _ e16) cl_CS_94 h_o rfl rfl rfl e_wx_CS_film_9 rfl rfl rfl ⟨by decide, by decide⟩ ?_
    rintro _ _ ⟨rfl, rfl⟩
    show HM g D G0 q0 q15.2 12 [(0, vr 8 o), (1, vi a0), (2, vi a1), (3, vi a2)] [vi q15.1]
    obtain ⟨c17, h⟩ := wgd h
    refine h_if_eq (tgt := 22) C e_wx_CS_film_12 (by decide) c17 (fun c18 => ?_) (fun c18 => ?_)
    · have h := wfp c18 h
      refine h_blk 24 [(0, vr 8 o), (1, vi a0), (2, vi a1), (3, vi a2)] [vi (-2)] C f_wx_CS_film_22_1 rfl ?_
      exact w_iret C Rm E (fun _ _ z => z) wb.rfl' e_wx_CS_film_24 h
    · have h := wfn c18 h
      refine h_blk 16 [(0, vr 8 o), (1, vi a0), (2, vi a1), (3, vi a2)] [vi a2] C f_wx_CS_film_15_1 rfl ?_
      obtain ⟨q19, e20, h⟩ := h
      refine w_callS C Rm Y wb.rfl' [vi a2] [] (hx_CS_isName l D B H0 G0 _ a2 _ _ e20) cl_CS_77 e_wx_CS_film_16 rfl rfl rfl ⟨by decide, by decide⟩ ?_
      rintro _ _ ⟨rfl, rfl⟩
      show HM g D G0 q0 q19.2 19 [(0, vr 8 o), (1, vi a0), (2, vi a1), (3, vi a2)] [vi q19.1]
      obtain ⟨c21, h⟩ := wgd h
      refine h_if_ne (tgt := 25) C e_wx_CS_film_19 (by decide) c21 (fun c22 => ?_) (fun c22 => ?_)
      · have h := wfn c22 h
        refine h_blk 27 [(0, vr 8 o), (1, vi a0), (2, vi a1), (3, vi a2)] [vi a1, vr 8 o] C f_wx_CS_film_25_2 rfl ?_
        refine w_wV C Rm Y wb.rfl' [vi a1] [] (wx_CS_endOf l D B H0 G0 k0 _ o a1 h_o _ h) cl_CS_107 h_o rfl rfl rfl e_wx_CS_film_27 rfl rfl rfl ⟨by decide, by decide⟩ (fun r23 A24 G25 k26 q27 p28 y29 b30 => ?_)
        have h := p28
        refine wk3 (fun c31 g32 => ?_) (fun c31 => ?_)
        · have h := wfp c31 h
          refine h_blk 34 [(4, vr 0 r23.toNat), (0, vr 8 o), (1, vi a0), (2, vi a1), (3, vi a2)] [vr 0 r23.toNat] C f_wx_CS_film_30_2 rfl ?_
          refine h_ifnull C e_wx_CS_film_34 ?_
          refine h_blk 39 [(4, vr 0 r23.toNat), (0, vr 8 o), (1, vi a0), (2, vi a1), (3, vi a2)] [vr 0 r23.toNat] C f_wx_CS_film_37_1 rfl ?_
          refine h_geti C e_wx_CS_film_39 fg_CS_111 g32 rfl rfl rfl (A24 0 r23.toNat 2) rfl ?_
          obtain ⟨c33, h⟩ := wgd h
          refine h_if_ne (tgt := 58) C e_wx_CS_film_42 (by decide) c33 (fun c34 => ?_) (fun c34 => ?_)
          · have h := wfn c34 h
            refine h_blk 62 [(4, vr 0 r23.toNat), (0, vr 8 o), (1, vi a0), (2, vi a1), (3, vi a2)] [vr 8 o, vi a2, vr 0 r23.toNat] C f_wx_CS_film_58_3 rfl ?_
            refine h_getr4 C e_wx_CS_film_62 fg_CS_39 (y29 _ _ h_o) rfl rfl rfl rfl (fun g35 => ?_)
            obtain ⟨q36, e37, h⟩ := h
            refine w_callV C Rm Y b30 [vi a2, vr 23 ((A24 8 o 11).toNat)] [] (hx_Crowd_spread l D B H0 G25 _ r23.toNat a2 ((A24 8 o 11).toNat) g32 g35 _ _ e37) cl_CS_155 g32 rfl rfl rfl e_wx_CS_film_65 rfl rfl rfl ⟨by decide, by decide⟩ ?_
            rintro _ _ ⟨rfl, rfl⟩
            show HM g D G25 q27 q36.2 68 [(4, vr 0 r23.toNat), (0, vr 8 o), (1, vi a0), (2, vi a1), (3, vi a2)] []
            refine h_blk 69 [(4, vr 0 r23.toNat), (0, vr 8 o), (1, vi a0), (2, vi a1), (3, vi a2)] [vr 8 o] C f_wx_CS_film_68_1 rfl ?_
            refine h_getr4 C e_wx_CS_film_69 fg_CS_21 (y29 _ _ h_o) rfl rfl rfl rfl (fun g38 => ?_)
            refine h_blk 73 [(4, vr 0 r23.toNat), (0, vr 8 o), (1, vi a0), (2, vi a1), (3, vi a2)] [vi a0, vr 22 ((q36.2 8 o 8).toNat)] C f_wx_CS_film_72_1 rfl ?_
            obtain ⟨c39, h⟩ := wgd h
            refine h_aald4 C e_wx_CS_film_73 rfl rfl g38 rfl rfl rfl rfl (by decide) c39.1 c39.2 (fun g40 => ?_)
            refine h_blk 81 [(5, vr 5 ((q36.2 22 ((q36.2 8 o 8).toNat) a0.toNat).toNat)), (4, vr 0 r23.toNat), (0, vr 8 o), (1, vi a0), (2, vi a1), (3, vi a2)] [vi 10, vi 0, vr 5 ((q36.2 22 ((q36.2 8 o 8).toNat) a0.toNat).toNat)] C f_wx_CS_film_74_4 rfl ?_
            obtain ⟨q41, e42, h⟩ := h
            refine w_callV C Rm Y b30 [vi 0, vi 10] [] (hx_Sheet_become l D B H0 G25 _ ((q36.2 22 ((q36.2 8 o 8).toNat) a0.toNat).toNat) 0 10 g40 _ _ e42) cl_CS_223 g40 rfl rfl rfl e_wx_CS_film_81 rfl rfl rfl ⟨by decide, by decide⟩ ?_
            rintro _ _ ⟨rfl, rfl⟩
            show HM g D G25 q27 q41.2 84 [(5, vr 5 ((q36.2 22 ((q36.2 8 o 8).toNat) a0.toNat).toNat)), (4, vr 0 r23.toNat), (0, vr 8 o), (1, vi a0), (2, vi a1), (3, vi a2)] []
            refine h_blk 87 [(6, vi 0), (5, vr 5 ((q36.2 22 ((q36.2 8 o 8).toNat) a0.toNat).toNat)), (4, vr 0 r23.toNat), (0, vr 8 o), (1, vi a0), (2, vi a1), (3, vi a2)] [] C f_wx_CS_film_84_2 rfl ?_
            refine h_loc [(0, vr 8 o), (4, vr 0 r23.toNat), (5, vr 5 ((q36.2 22 ((q36.2 8 o 8).toNat) a0.toNat).toNat)), (6, vi 0)] ⟨rfl, rfl, rfl, rfl, trivial⟩ ?_
            exact hd_87 _ k26 G25 q27 (fun a τ z => y29 a τ ((fun _ _ z => z) a τ z)) b30 q41.2 o r23.toNat ((q36.2 22 ((q36.2 8 o 8).toNat) a0.toNat).toNat) 0 ((y29 _ _ h_o)) (g32) (g40) h
          · have h := wfp c34 h
            refine h_blk 47 [(4, vr 0 r23.toNat), (0, vr 8 o), (1, vi a0), (2, vi a1), (3, vi a2)] [vr 0 r23.toNat] C f_wx_CS_film_45_1 rfl ?_
            refine h_ifnonnull (tgt := 55) C e_wx_CS_film_47 (by decide) ?_
            refine h_blk 57 [(4, vr 0 r23.toNat), (0, vr 8 o), (1, vi a0), (2, vi a1), (3, vi a2)] [vi (-7)] C f_wx_CS_film_55_1 rfl ?_
            exact w_iret C Rm E (fun a τ z => y29 a τ ((fun _ _ z => z) a τ z)) b30 e_wx_CS_film_57 h
        · have h := wfn (by omega)  h
          refine h_blk 34 [(4, vn), (0, vr 8 o), (1, vi a0), (2, vi a1), (3, vi a2)] [vn] C f_wx_CS_film_30_2 rfl ?_
          refine wn_ifnull (tgt := 45) C e_wx_CS_film_34 (by decide) ?_
          refine h_blk 47 [(4, vn), (0, vr 8 o), (1, vi a0), (2, vi a1), (3, vi a2)] [vn] C f_wx_CS_film_45_1 rfl ?_
          refine wn_ifnonnull C e_wx_CS_film_47 ?_
          refine h_blk 57 [(4, vn), (0, vr 8 o), (1, vi a0), (2, vi a1), (3, vi a2)] [vi (-6)] C f_wx_CS_film_50_2 rfl ?_
          exact w_iret C Rm E (fun a τ z => y29 a τ ((fun _ _ z => z) a τ z)) b30 e_wx_CS_film_57 h
      · have h := wfp c22 h
        refine h_blk 24 [(0, vr 8 o), (1, vi a0), (2, vi a1), (3, vi a2)] [vi (-2)] C f_wx_CS_film_22_1 rfl ?_
        exact w_iret C Rm E (fun _ _ z => z) wb.rfl' e_wx_CS_film_24 h

