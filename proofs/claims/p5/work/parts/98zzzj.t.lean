/-! comes of both as functions (own work, by program) -/
def nm32 (z : Int) : Int := (Int32.ofInt z).toInt
theorem nm32_r (z : Int) : g32 (nm32 z) := ⟨jlo _, by have := jhi (Int32.ofInt z); show (Int32.ofInt z).toInt ≤ _; omega⟩
theorem h_nm {g : jG} {D : va_G} {G : tG} {q : Nat × Nat} {A : mA} {pc : Nat} {L : List (Nat × mV)} {st : List mV} {z : Int} (kk : HM g D G q A pc L (vi (nm32 z) :: st)) : HM g D G q A pc L (vi z :: st) := fun w hw hf => by
  have k := kk w hw hf
  have e : mc hid (vi (nm32 z)) = mc hid (vi z) := congrArg Value.int (Int32.ofInt_toInt _)
  rw [mSt, List.map_cons, e] at k
  exact k
theorem m_nm {g : jG} {D : va_G} {ad : mAd} {w0 : jW} {A : mA} {pc : Nat} {L : List (Nat × mV)} {st : List mV} {z : Int} (kk : JM g D ad w0 A pc L (vi (nm32 z) :: st)) : JM g D ad w0 A pc L (vi z :: st) := fun w hw hr => by
  have k := kk w hw hr
  have e : mc ad (vi (nm32 z)) = mc ad (vi z) := congrArg Value.int (Int32.ofInt_toInt _)
  rw [mSt, List.map_cons, e] at k
  exact k
theorem h_metF {l : Launch} {D : va_G} {B : Nat} {H0 : Heap} {G : tG} {A : mA} {cc : ByteArray} {post : Option mV → mA → Prop} {y : MethodName} {maxL : Nat} {ret : Option FieldType} {av : List mV} {fr lo : Nat} (hy : plainFor y = true) (hav : Nat.ble (mcsum av) maxL = true)
    (body : ∀ (g : jG) (q : Nat × Nat), jX g cc maxL y.cls D → jRm g q.1 q.2 { frames := fr, cells := 0, slots := 0, locals := lo } → jY g l B H0 y → jEnd g (hPost D G q post) 0 0 ret → HM g D G q A 0 (margs 0 av) []) : hMet l D B H0 G y cc maxL ret fr lo av A post := fun w hw => by
  refine j_metF hy (by rw [mlg]; exact Nat.le_of_ble_eq_true hav) (fun g C Rm Y E => ?_)
  rw [margs_ok]
  exact body g w.2 C Rm Y E w hw rfl
def f_Math_floorMod (A : mA) (a0 : Int) (a1 : Int) : Option (Int × mA) := (if g32 a0 then (if g32 a1 then (if a1 ≠ 0 then (if 0 ≤ (iXor a0 a1) then (some ((Int.tmod a0 a1), A)) else (if g32 (Int.tmod a0 a1) then (if (Int.tmod a0 a1) = 0 then (some ((Int.tmod a0 a1), A)) else (some (((Int.tmod a0 a1) + a1), A))) else none)) else none) else none) else none)
theorem f_hx_Math_floorMod_0_2 : mblkB b_Math_floorMod [(0, .iload_n 0, vi 0), (1, .iload_n 1, vi 0)] = true := by decide +kernel
theorem e_hx_Math_floorMod_2 : decode b_Math_floorMod 2 = .ok (.irem, 1) := by decide +kernel
theorem f_hx_Math_floorMod_3_4 : mblkB b_Math_floorMod [(3, .istore_n 2, vi 0), (4, .iload_n 0, vi 0), (5, .iload_n 1, vi 0), (6, .ixor, vi 0)] = true := by decide +kernel
theorem e_hx_Math_floorMod_7 : decode b_Math_floorMod 7 = .ok (.ifCond .ge 11, 3) := by decide +kernel
theorem f_hx_Math_floorMod_18_1 : mblkB b_Math_floorMod [(18, .iload_n 2, vi 0)] = true := by decide +kernel
theorem e_hx_Math_floorMod_19 : decode b_Math_floorMod 19 = .ok (.ireturn, 1) := by decide +kernel
theorem f_hx_Math_floorMod_10_1 : mblkB b_Math_floorMod [(10, .iload_n 2, vi 0)] = true := by decide +kernel
theorem e_hx_Math_floorMod_11 : decode b_Math_floorMod 11 = .ok (.ifCond .eq 7, 3) := by decide +kernel
theorem f_hx_Math_floorMod_14_3 : mblkB b_Math_floorMod [(14, .iload_n 2, vi 0), (15, .iload_n 1, vi 0), (16, .iadd, vi 0)] = true := by decide +kernel
theorem e_hx_Math_floorMod_17 : decode b_Math_floorMod 17 = .ok (.ireturn, 1) := by decide +kernel
set_option maxHeartbeats 4000000 in
set_option maxRecDepth 20000 in
theorem hx_Math_floorMod  : ∀ (l : Launch) (D : va_G) (B : Nat) (H0 : Heap) (G : tG) (A : mA) (a0 : Int) (a1 : Int)  (r9 : Int) (A9 : mA), f_Math_floorMod  A a0 a1 = some (r9, A9) → hMet l D B H0 G y_Math_floorMod b_Math_floorMod 3 (some .int) 0 0 [vi a0, vi a1] A (fun v A' => v = some (vi r9) ∧ A' = A9) := by
  intro l D B H0 G A a0 a1  r9 A9 h
  refine h_metF (by decide +kernel) rfl (fun g q C Rm Y E => ?_)
  show HM g D G q A 0 [(0, vi a0), (1, vi a1)] []
  unfold f_Math_floorMod at h
  refine h_blk 2 [(0, vi a0), (1, vi a1)] [vi a1, vi a0] C f_hx_Math_floorMod_0_2 rfl ?_
  obtain ⟨c1, h⟩ := igd h
  obtain ⟨c2, h⟩ := igd h
  obtain ⟨c3, h⟩ := igd h
  refine h_irem C e_hx_Math_floorMod_2 c1 c2 c3 ?_
  refine h_blk 7 [(2, vi (Int.tmod a0 a1)), (0, vi a0), (1, vi a1)] [vi (iXor a0 a1)] C f_hx_Math_floorMod_3_4 rfl ?_
  refine h_if_ge (tgt := 18) C e_hx_Math_floorMod_7 (by decide) (iXor_r _ _) (fun c4 => ?_) (fun c4 => ?_)
  · have h := ifp c4 h
    refine h_blk 19 [(2, vi (Int.tmod a0 a1)), (0, vi a0), (1, vi a1)] [vi (Int.tmod a0 a1)] C f_hx_Math_floorMod_18_1 rfl ?_
    exact h_iret C Rm E e_hx_Math_floorMod_19 (fin1 h)
  · have h := ifn c4 h
    refine h_blk 11 [(2, vi (Int.tmod a0 a1)), (0, vi a0), (1, vi a1)] [vi (Int.tmod a0 a1)] C f_hx_Math_floorMod_10_1 rfl ?_
    obtain ⟨c5, h⟩ := igd h
    refine h_if_eq (tgt := 18) C e_hx_Math_floorMod_11 (by decide) c5 (fun c6 => ?_) (fun c6 => ?_)
    · have h := ifp c6 h
      refine h_blk 19 [(2, vi (Int.tmod a0 a1)), (0, vi a0), (1, vi a1)] [vi (Int.tmod a0 a1)] C f_hx_Math_floorMod_18_1 rfl ?_
      exact h_iret C Rm E e_hx_Math_floorMod_19 (fin1 h)
    · have h := ifn c6 h
      refine h_blk 17 [(2, vi (Int.tmod a0 a1)), (0, vi a0), (1, vi a1)] [vi ((Int.tmod a0 a1) + a1)] C f_hx_Math_floorMod_14_3 rfl ?_
      exact h_iret C Rm E e_hx_Math_floorMod_17 (fin1 h)

def f_Prog_joined (A : mA) (a0 : Int) (a1 : Int) (a2 : Int) : Option (Int × mA) := (if g32 a0 then (if a0 = 37 then (if g32 a2 then (if a2 = 0 then (some (0, A)) else (if g32 a1 then (if a2 ≠ 0 then (some ((nm32 (Int.tmod a1 a2)), A)) else none) else none)) else none) else if a0 = 42 then (some ((nm32 (a1 * a2)), A)) else if a0 = 43 then (some ((nm32 (a1 + a2)), A)) else if a0 = 45 then (some ((nm32 (a1 - a2)), A)) else if a0 = 60 then (if g32 a1 then if g32 a2 then (if a2 ≤ a1 then (some (0, A)) else (some (1, A))) else none else none) else (if g32 a1 then if g32 a2 then (if a1 = a2 then (some (1, A)) else (some (0, A))) else none else none)) else none)
theorem f_hx_Prog_joined_0_1 : mblkB b_Prog_joined [(0, .iload_n 0, vi 0)] = true := by decide +kernel
theorem e_hx_Prog_joined_1 : decode b_Prog_joined 1 = .ok (.lookupswitch 86 #[(37, 63), (42, 59), (43, 51), (45, 55), (60, 75)], 51) := by decide +kernel
theorem f_hx_Prog_joined_64_1 : mblkB b_Prog_joined [(64, .iload_n 2, vi 0)] = true := by decide +kernel
theorem e_hx_Prog_joined_65 : decode b_Prog_joined 65 = .ok (.ifCond .ne 7, 3) := by decide +kernel
theorem f_hx_Prog_joined_72_2 : mblkB b_Prog_joined [(72, .iload_n 1, vi 0), (73, .iload_n 2, vi 0)] = true := by decide +kernel
theorem e_hx_Prog_joined_74 : decode b_Prog_joined 74 = .ok (.irem, 1) := by decide +kernel
theorem e_hx_Prog_joined_75 : decode b_Prog_joined 75 = .ok (.ireturn, 1) := by decide +kernel
theorem f_hx_Prog_joined_68_2 : mblkB b_Prog_joined [(68, .iconst 0, vi 0), (69, .goto 6, vi 75)] = true := by decide +kernel
theorem f_hx_Prog_joined_60_3 : mblkB b_Prog_joined [(60, .iload_n 1, vi 0), (61, .iload_n 2, vi 0), (62, .imul, vi 0)] = true := by decide +kernel
theorem e_hx_Prog_joined_63 : decode b_Prog_joined 63 = .ok (.ireturn, 1) := by decide +kernel
theorem f_hx_Prog_joined_52_3 : mblkB b_Prog_joined [(52, .iload_n 1, vi 0), (53, .iload_n 2, vi 0), (54, .iadd, vi 0)] = true := by decide +kernel
theorem e_hx_Prog_joined_55 : decode b_Prog_joined 55 = .ok (.ireturn, 1) := by decide +kernel
theorem f_hx_Prog_joined_56_3 : mblkB b_Prog_joined [(56, .iload_n 1, vi 0), (57, .iload_n 2, vi 0), (58, .isub, vi 0)] = true := by decide +kernel
theorem e_hx_Prog_joined_59 : decode b_Prog_joined 59 = .ok (.ireturn, 1) := by decide +kernel
theorem f_hx_Prog_joined_76_2 : mblkB b_Prog_joined [(76, .iload_n 1, vi 0), (77, .iload_n 2, vi 0)] = true := by decide +kernel
theorem e_hx_Prog_joined_78 : decode b_Prog_joined 78 = .ok (.if_icmp .ge 7, 3) := by decide +kernel
theorem f_hx_Prog_joined_85_1 : mblkB b_Prog_joined [(85, .iconst 0, vi 0)] = true := by decide +kernel
theorem e_hx_Prog_joined_86 : decode b_Prog_joined 86 = .ok (.ireturn, 1) := by decide +kernel
theorem f_hx_Prog_joined_81_2 : mblkB b_Prog_joined [(81, .iconst 1, vi 1), (82, .goto 4, vi 86)] = true := by decide +kernel
theorem f_hx_Prog_joined_87_2 : mblkB b_Prog_joined [(87, .iload_n 1, vi 0), (88, .iload_n 2, vi 0)] = true := by decide +kernel
theorem e_hx_Prog_joined_89 : decode b_Prog_joined 89 = .ok (.if_icmp .ne 7, 3) := by decide +kernel
theorem f_hx_Prog_joined_96_1 : mblkB b_Prog_joined [(96, .iconst 0, vi 0)] = true := by decide +kernel
theorem e_hx_Prog_joined_97 : decode b_Prog_joined 97 = .ok (.ireturn, 1) := by decide +kernel
theorem f_hx_Prog_joined_92_2 : mblkB b_Prog_joined [(92, .iconst 1, vi 1), (93, .goto 4, vi 97)] = true := by decide +kernel
set_option maxHeartbeats 4000000 in
set_option maxRecDepth 20000 in
theorem hx_Prog_joined  : ∀ (l : Launch) (D : va_G) (B : Nat) (H0 : Heap) (G : tG) (A : mA) (a0 : Int) (a1 : Int) (a2 : Int)  (r9 : Int) (A9 : mA), f_Prog_joined  A a0 a1 a2 = some (r9, A9) → hMet l D B H0 G y_Prog_joined b_Prog_joined 3 (some .int) 0 0 [vi a0, vi a1, vi a2] A (fun v A' => v = some (vi r9) ∧ A' = A9) := by
  intro l D B H0 G A a0 a1 a2  r9 A9 h
  refine h_met (by decide) rfl (fun g q C Rm Y E => ?_)
  show HM g D G q A 0 [(0, vi a0), (1, vi a1), (2, vi a2)] []
  unfold f_Prog_joined at h
  refine h_blk 1 [(0, vi a0), (1, vi a1), (2, vi a2)] [vi a0] C f_hx_Prog_joined_0_1 rfl ?_
  obtain ⟨c1, h⟩ := igd h
  by_cases c2 : a0 = 37
  · have h := ifp c2 h
    refine h_look (tgt := 64) C e_hx_Prog_joined_1 (by decide) c1 (by rw [c2]; rfl) ?_
    refine h_blk 65 [(0, vi a0), (1, vi a1), (2, vi a2)] [vi a2] C f_hx_Prog_joined_64_1 rfl ?_
    obtain ⟨c3, h⟩ := igd h
    refine h_if_ne (tgt := 72) C e_hx_Prog_joined_65 (by decide) c3 (fun c4 => ?_) (fun c4 => ?_)
    · have h := ifn c4 h
      refine h_blk 74 [(0, vi a0), (1, vi a1), (2, vi a2)] [vi a2, vi a1] C f_hx_Prog_joined_72_2 rfl ?_
      obtain ⟨c5, h⟩ := igd h
      obtain ⟨c6, h⟩ := igd h
      refine h_irem C e_hx_Prog_joined_74 c5 c3 c6 ?_
      refine h_nm ?_
      exact h_iret C Rm E e_hx_Prog_joined_75 (fin1 h)
    · have h := ifp c4 h
      refine h_blk 75 [(0, vi a0), (1, vi a1), (2, vi a2)] [vi 0] C f_hx_Prog_joined_68_2 rfl ?_
      exact h_iret C Rm E e_hx_Prog_joined_75 (fin1 h)
  have h := ifn c2 h
  by_cases c7 : a0 = 42
  · have h := ifp c7 h
    refine h_look (tgt := 60) C e_hx_Prog_joined_1 (by decide) c1 (by rw [c7]; rfl) ?_
    refine h_blk 63 [(0, vi a0), (1, vi a1), (2, vi a2)] [vi (a1 * a2)] C f_hx_Prog_joined_60_3 rfl ?_
    refine h_nm ?_
    exact h_iret C Rm E e_hx_Prog_joined_63 (fin1 h)
  have h := ifn c7 h
  by_cases c8 : a0 = 43
  · have h := ifp c8 h
    refine h_look (tgt := 52) C e_hx_Prog_joined_1 (by decide) c1 (by rw [c8]; rfl) ?_
    refine h_blk 55 [(0, vi a0), (1, vi a1), (2, vi a2)] [vi (a1 + a2)] C f_hx_Prog_joined_52_3 rfl ?_
    refine h_nm ?_
    exact h_iret C Rm E e_hx_Prog_joined_55 (fin1 h)
  have h := ifn c8 h
  by_cases c9 : a0 = 45
  · have h := ifp c9 h
    refine h_look (tgt := 56) C e_hx_Prog_joined_1 (by decide) c1 (by rw [c9]; rfl) ?_
    refine h_blk 59 [(0, vi a0), (1, vi a1), (2, vi a2)] [vi (a1 - a2)] C f_hx_Prog_joined_56_3 rfl ?_
    refine h_nm ?_
    exact h_iret C Rm E e_hx_Prog_joined_59 (fin1 h)
  have h := ifn c9 h
  by_cases c10 : a0 = 60
  · have h := ifp c10 h
    refine h_look (tgt := 76) C e_hx_Prog_joined_1 (by decide) c1 (by rw [c10]; rfl) ?_
    refine h_blk 78 [(0, vi a0), (1, vi a1), (2, vi a2)] [vi a2, vi a1] C f_hx_Prog_joined_76_2 rfl ?_
    obtain ⟨c11, h⟩ := igd h
    obtain ⟨c12, h⟩ := igd h
    refine h_icmp_ge (tgt := 85) C e_hx_Prog_joined_78 (by decide) c11 c12 (fun c13 => ?_) (fun c13 => ?_)
    · have h := ifp c13 h
      refine h_blk 86 [(0, vi a0), (1, vi a1), (2, vi a2)] [vi 0] C f_hx_Prog_joined_85_1 rfl ?_
      exact h_iret C Rm E e_hx_Prog_joined_86 (fin1 h)
    · have h := ifn c13 h
      refine h_blk 86 [(0, vi a0), (1, vi a1), (2, vi a2)] [vi 1] C f_hx_Prog_joined_81_2 rfl ?_
      exact h_iret C Rm E e_hx_Prog_joined_86 (fin1 h)
  have h := ifn c10 h
  refine h_look (tgt := 87) C e_hx_Prog_joined_1 (by decide) c1 (by rw [look_out _ _ _ (by simp only [List.forall_mem_cons]; exact ⟨c2, c7, c8, c9, c10, fun _ h9 => absurd h9 List.not_mem_nil⟩)]; rfl) ?_
  refine h_blk 89 [(0, vi a0), (1, vi a1), (2, vi a2)] [vi a2, vi a1] C f_hx_Prog_joined_87_2 rfl ?_
  obtain ⟨c14, h⟩ := igd h
  obtain ⟨c15, h⟩ := igd h
  refine h_icmp_ne (tgt := 96) C e_hx_Prog_joined_89 (by decide) c14 c15 (fun c16 => ?_) (fun c16 => ?_)
  · have h := ifn c16 h
    refine h_blk 97 [(0, vi a0), (1, vi a1), (2, vi a2)] [vi 0] C f_hx_Prog_joined_96_1 rfl ?_
    exact h_iret C Rm E e_hx_Prog_joined_97 (fin1 h)
  · have h := ifp c16 h
    refine h_blk 97 [(0, vi a0), (1, vi a1), (2, vi a2)] [vi 1] C f_hx_Prog_joined_92_2 rfl ?_
    exact h_iret C Rm E e_hx_Prog_joined_97 (fin1 h)

def f_Prog_valueOf_12 : Nat → mA → Nat → Nat → Int → Int → Int → Option (Int × mA)
  | 0, _, _, _, _, _, _ => none
  | n + 1, A, b0, b1, b2, b3, b4 => (if g32 b4 then if g32 (A 6 b1 10) then (if (A 6 b1 10) ≤ b4 then (some ((nm32 (A 37 ((A 2 b0 7).toNat) 0)), A)) else (if 120 ≤ b4 then (some ((nm32 (A 37 ((A 2 b0 7).toNat) 0)), A)) else (if (0 ≤ b4 ∧ b4 < ((120 : Nat) : Int)) then (if g32 (A 36 ((A 2 b0 2).toNat) b4.toNat) then (if (A 36 ((A 2 b0 2).toNat) b4.toNat) < 200 then (if (A 36 ((A 2 b0 2).toNat) b4.toNat) = 150 then (if g32 b3 then (if b3 ≤ 0 then (f_Prog_valueOf_12  n A b0 b1 b2 b3 (b4 + 1)) else (if 120 < b3 then (f_Prog_valueOf_12  n A b0 b1 b2 b3 (b4 + 1)) else (if (0 ≤ (b3 - 1) ∧ (b3 - 1) < ((120 : Nat) : Int)) then (f_Prog_valueOf_12  n (mu A 37 ((A 2 b0 7).toNat) ((b3 - 1).toNat) (nm32 (-(A 37 ((A 2 b0 7).toNat) ((b3 - 1).toNat))))) b0 b1 b2 b3 (b4 + 1)) else none))) else none) else (if g32 b3 then (if 120 ≤ b3 then (f_Prog_valueOf_12  n A b0 b1 b2 b3 (b4 + 1)) else (if (A 36 ((A 2 b0 2).toNat) b4.toNat) < 100 then (if (0 ≤ b3 ∧ b3 < ((120 : Nat) : Int)) then (f_Prog_valueOf_12  n (mu A 37 ((A 2 b0 7).toNat) b3.toNat (nm32 (A 36 ((A 2 b0 2).toNat) b4.toNat))) b0 b1 b2 (b3 + 1) (b4 + 1)) else none) else (Option.bind (f_CS_digitAt A b2 ((A 36 ((A 2 b0 2).toNat) b4.toNat) - 100)) (fun q17 => (if (0 ≤ b3 ∧ b3 < ((120 : Nat) : Int)) then (f_Prog_valueOf_12  n (mu q17.2 37 ((A 2 b0 7).toNat) b3.toNat q17.1) b0 b1 b2 (b3 + 1) (b4 + 1)) else none))))) else none)) else (if g32 b3 then (if b3 ≤ 1 then (f_Prog_valueOf_12  n A b0 b1 b2 b3 (b4 + 1)) else (if 120 < b3 then (f_Prog_valueOf_12  n A b0 b1 b2 b3 (b4 + 1)) else (if (0 ≤ ((b3 + (-1)) - 1) ∧ ((b3 + (-1)) - 1) < ((120 : Nat) : Int)) then (if (0 ≤ (b3 + (-1)) ∧ (b3 + (-1)) < ((120 : Nat) : Int)) then (Option.bind (f_Prog_joined A ((A 36 ((A 2 b0 2).toNat) b4.toNat) - 200) (A 37 ((A 2 b0 7).toNat) (((b3 + (-1)) - 1).toNat)) (A 37 ((A 2 b0 7).toNat) ((b3 + (-1)).toNat))) (fun q34 => (f_Prog_valueOf_12  n (mu q34.2 37 ((A 2 b0 7).toNat) (((b3 + (-1)) - 1).toNat) q34.1) b0 b1 b2 (b3 + (-1)) (b4 + 1)))) else none) else none))) else none)) else none) else none))) else none else none)
def f_Prog_valueOf (A : mA) (o : Nat) (a0 : Nat) (a1 : Int) : Option (Int × mA) := (if g32 (A 6 a0 9) then (f_Prog_valueOf_12  200 A o a0 a1 0 (max 0 (A 6 a0 9))) else none)
theorem f_hx_Prog_valueOf_0_4 : mblkB b_Prog_valueOf [(0, .iconst 0, vi 0), (1, .istore_n 3, vi 0), (2, .iconst 0, vi 0), (3, .aload_n 1, vi 0)] = true := by decide +kernel
theorem e_hx_Prog_valueOf_4 : decode b_Prog_valueOf 4 = .ok (.getfield 137, 3) := by decide +kernel
theorem e_hx_Prog_valueOf_7 : decode b_Prog_valueOf 7 = .ok (.invokestatic 68, 3) := by decide +kernel
theorem f_hx_Prog_valueOf_10_1 : mblkB b_Prog_valueOf [(10, .istore 4, vi 0)] = true := by decide +kernel
theorem f_hx_Prog_valueOf_12_2 : mblkB b_Prog_valueOf [(12, .iload 4, vi 0), (14, .aload_n 1, vi 0)] = true := by decide +kernel
theorem e_hx_Prog_valueOf_15 : decode b_Prog_valueOf 15 = .ok (.getfield 140, 3) := by decide +kernel
theorem e_hx_Prog_valueOf_18 : decode b_Prog_valueOf 18 = .ok (.if_icmp .ge 155, 3) := by decide +kernel
theorem f_hx_Prog_valueOf_173_1 : mblkB b_Prog_valueOf [(173, .aload_n 0, vi 0)] = true := by decide +kernel
theorem e_hx_Prog_valueOf_174 : decode b_Prog_valueOf 174 = .ok (.getfield 27, 3) := by decide +kernel
theorem f_hx_Prog_valueOf_177_1 : mblkB b_Prog_valueOf [(177, .iconst 0, vi 0)] = true := by decide +kernel
theorem e_hx_Prog_valueOf_178 : decode b_Prog_valueOf 178 = .ok (.iaload, 1) := by decide +kernel
theorem e_hx_Prog_valueOf_179 : decode b_Prog_valueOf 179 = .ok (.ireturn, 1) := by decide +kernel
theorem f_hx_Prog_valueOf_21_2 : mblkB b_Prog_valueOf [(21, .iload 4, vi 0), (23, .bipush 120, vi 120)] = true := by decide +kernel
theorem e_hx_Prog_valueOf_25 : decode b_Prog_valueOf 25 = .ok (.if_icmp .ge 148, 3) := by decide +kernel
theorem f_hx_Prog_valueOf_28_1 : mblkB b_Prog_valueOf [(28, .aload_n 0, vi 0)] = true := by decide +kernel
theorem e_hx_Prog_valueOf_29 : decode b_Prog_valueOf 29 = .ok (.getfield 17, 3) := by decide +kernel
theorem f_hx_Prog_valueOf_32_1 : mblkB b_Prog_valueOf [(32, .iload 4, vi 0)] = true := by decide +kernel
theorem e_hx_Prog_valueOf_34 : decode b_Prog_valueOf 34 = .ok (.iaload, 1) := by decide +kernel
theorem f_hx_Prog_valueOf_35_3 : mblkB b_Prog_valueOf [(35, .istore 5, vi 0), (37, .iload 5, vi 0), (39, .sipush 200, vi 200)] = true := by decide +kernel
theorem e_hx_Prog_valueOf_42 : decode b_Prog_valueOf 42 = .ok (.if_icmp .lt 51, 3) := by decide +kernel
theorem f_hx_Prog_valueOf_93_2 : mblkB b_Prog_valueOf [(93, .iload 5, vi 0), (95, .sipush 150, vi 150)] = true := by decide +kernel
theorem e_hx_Prog_valueOf_98 : decode b_Prog_valueOf 98 = .ok (.if_icmp .ne 33, 3) := by decide +kernel
theorem f_hx_Prog_valueOf_131_2 : mblkB b_Prog_valueOf [(131, .iload_n 3, vi 0), (132, .bipush 120, vi 120)] = true := by decide +kernel
theorem e_hx_Prog_valueOf_134 : decode b_Prog_valueOf 134 = .ok (.if_icmp .ge 33, 3) := by decide +kernel
theorem f_hx_Prog_valueOf_167_2 : mblkB b_Prog_valueOf [(167, .iinc 4 1, vi 1), (170, .goto (-158), vi 12)] = true := by decide +kernel
theorem f_hx_Prog_valueOf_137_1 : mblkB b_Prog_valueOf [(137, .aload_n 0, vi 0)] = true := by decide +kernel
theorem e_hx_Prog_valueOf_138 : decode b_Prog_valueOf 138 = .ok (.getfield 27, 3) := by decide +kernel
theorem f_hx_Prog_valueOf_141_3 : mblkB b_Prog_valueOf [(141, .iload_n 3, vi 0), (142, .iload 5, vi 0), (144, .bipush 100, vi 100)] = true := by decide +kernel
theorem e_hx_Prog_valueOf_146 : decode b_Prog_valueOf 146 = .ok (.if_icmp .lt 15, 3) := by decide +kernel
theorem f_hx_Prog_valueOf_161_1 : mblkB b_Prog_valueOf [(161, .iload 5, vi 0)] = true := by decide +kernel
theorem e_hx_Prog_valueOf_163 : decode b_Prog_valueOf 163 = .ok (.iastore, 1) := by decide +kernel
theorem f_hx_Prog_valueOf_164_3 : mblkB b_Prog_valueOf [(164, .iinc 3 1, vi 1), (167, .iinc 4 1, vi 1), (170, .goto (-158), vi 12)] = true := by decide +kernel
theorem f_hx_Prog_valueOf_149_4 : mblkB b_Prog_valueOf [(149, .iload_n 2, vi 0), (150, .iload 5, vi 0), (152, .bipush 100, vi 100), (154, .isub, vi 0)] = true := by decide +kernel
theorem e_hx_Prog_valueOf_155 : decode b_Prog_valueOf 155 = .ok (.invokestatic 146, 3) := by decide +kernel
theorem f_hx_Prog_valueOf_158_1 : mblkB b_Prog_valueOf [(158, .goto 5, vi 163)] = true := by decide +kernel
theorem f_hx_Prog_valueOf_101_1 : mblkB b_Prog_valueOf [(101, .iload_n 3, vi 0)] = true := by decide +kernel
theorem e_hx_Prog_valueOf_102 : decode b_Prog_valueOf 102 = .ok (.ifCond .le 65, 3) := by decide +kernel
theorem f_hx_Prog_valueOf_105_2 : mblkB b_Prog_valueOf [(105, .iload_n 3, vi 0), (106, .bipush 120, vi 120)] = true := by decide +kernel
theorem e_hx_Prog_valueOf_108 : decode b_Prog_valueOf 108 = .ok (.if_icmp .gt 59, 3) := by decide +kernel
theorem f_hx_Prog_valueOf_111_1 : mblkB b_Prog_valueOf [(111, .aload_n 0, vi 0)] = true := by decide +kernel
theorem e_hx_Prog_valueOf_112 : decode b_Prog_valueOf 112 = .ok (.getfield 27, 3) := by decide +kernel
theorem f_hx_Prog_valueOf_115_4 : mblkB b_Prog_valueOf [(115, .iload_n 3, vi 0), (116, .iconst 1, vi 1), (117, .isub, vi 0), (118, .aload_n 0, vi 0)] = true := by decide +kernel
theorem e_hx_Prog_valueOf_119 : decode b_Prog_valueOf 119 = .ok (.getfield 27, 3) := by decide +kernel
theorem f_hx_Prog_valueOf_122_3 : mblkB b_Prog_valueOf [(122, .iload_n 3, vi 0), (123, .iconst 1, vi 1), (124, .isub, vi 0)] = true := by decide +kernel
theorem e_hx_Prog_valueOf_125 : decode b_Prog_valueOf 125 = .ok (.iaload, 1) := by decide +kernel
theorem f_hx_Prog_valueOf_126_1 : mblkB b_Prog_valueOf [(126, .ineg, vi 0)] = true := by decide +kernel
theorem e_hx_Prog_valueOf_127 : decode b_Prog_valueOf 127 = .ok (.iastore, 1) := by decide +kernel
theorem f_hx_Prog_valueOf_128_1 : mblkB b_Prog_valueOf [(128, .goto 39, vi 167)] = true := by decide +kernel
theorem f_hx_Prog_valueOf_45_2 : mblkB b_Prog_valueOf [(45, .iload_n 3, vi 0), (46, .iconst 1, vi 1)] = true := by decide +kernel
theorem e_hx_Prog_valueOf_47 : decode b_Prog_valueOf 47 = .ok (.if_icmp .le 120, 3) := by decide +kernel
theorem f_hx_Prog_valueOf_50_2 : mblkB b_Prog_valueOf [(50, .iload_n 3, vi 0), (51, .bipush 120, vi 120)] = true := by decide +kernel
theorem e_hx_Prog_valueOf_53 : decode b_Prog_valueOf 53 = .ok (.if_icmp .gt 114, 3) := by decide +kernel
theorem f_hx_Prog_valueOf_56_2 : mblkB b_Prog_valueOf [(56, .iinc 3 (-1), vi (-1)), (59, .aload_n 0, vi 0)] = true := by decide +kernel
theorem e_hx_Prog_valueOf_60 : decode b_Prog_valueOf 60 = .ok (.getfield 27, 3) := by decide +kernel
theorem f_hx_Prog_valueOf_63_7 : mblkB b_Prog_valueOf [(63, .iload_n 3, vi 0), (64, .iconst 1, vi 1), (65, .isub, vi 0), (66, .iload 5, vi 0), (68, .sipush 200, vi 200), (71, .isub, vi 0), (72, .aload_n 0, vi 0)] = true := by decide +kernel
theorem e_hx_Prog_valueOf_73 : decode b_Prog_valueOf 73 = .ok (.getfield 27, 3) := by decide +kernel
theorem f_hx_Prog_valueOf_76_3 : mblkB b_Prog_valueOf [(76, .iload_n 3, vi 0), (77, .iconst 1, vi 1), (78, .isub, vi 0)] = true := by decide +kernel
theorem e_hx_Prog_valueOf_79 : decode b_Prog_valueOf 79 = .ok (.iaload, 1) := by decide +kernel
theorem f_hx_Prog_valueOf_80_1 : mblkB b_Prog_valueOf [(80, .aload_n 0, vi 0)] = true := by decide +kernel
theorem e_hx_Prog_valueOf_81 : decode b_Prog_valueOf 81 = .ok (.getfield 27, 3) := by decide +kernel
theorem f_hx_Prog_valueOf_84_1 : mblkB b_Prog_valueOf [(84, .iload_n 3, vi 0)] = true := by decide +kernel
theorem e_hx_Prog_valueOf_85 : decode b_Prog_valueOf 85 = .ok (.iaload, 1) := by decide +kernel
theorem e_hx_Prog_valueOf_86 : decode b_Prog_valueOf 86 = .ok (.invokestatic 143, 3) := by decide +kernel
theorem e_hx_Prog_valueOf_89 : decode b_Prog_valueOf 89 = .ok (.iastore, 1) := by decide +kernel
theorem f_hx_Prog_valueOf_90_1 : mblkB b_Prog_valueOf [(90, .goto 77, vi 167)] = true := by decide +kernel
set_option maxHeartbeats 4000000 in
set_option maxRecDepth 20000 in
theorem hx_Prog_valueOf  : ∀ (l : Launch) (D : va_G) (B : Nat) (H0 : Heap) (G : tG) (A : mA) (o : Nat) (a0 : Nat) (a1 : Int) (h_o : G o = some 2) (h_a0 : G a0 = some 6)  (r9 : Int) (A9 : mA), f_Prog_valueOf  A o a0 a1 = some (r9, A9) → hMet l D B H0 G y_Prog_valueOf b_Prog_valueOf 6 (some .int) 1 40 [vr 2 o, vr 6 a0, vi a1] A (fun v A' => v = some (vi r9) ∧ A' = A9) := by
  intro l D B H0 G A o a0 a1 h_o h_a0 r9 A9 h
  refine h_met (by decide) rfl (fun g q C Rm Y E => ?_)
  have hd_12 : ∀ (n : Nat) (A : mA) (b0 : Nat) (b1 : Nat) (b2 : Int) (b3 : Int) (b4 : Int) , G b0 = some 2 → G b1 = some 6 → f_Prog_valueOf_12  n A b0 b1 b2 b3 b4 = some (r9, A9) → HM g D G q A 12 [(0, vr 2 b0), (1, vr 6 b1), (2, vi b2), (3, vi b3), (4, vi b4)] [] := by
    intro n
    induction n with
    | zero => intro A b0 b1 b2 b3 b4 h_b0 h_b1 h; cases h
    | succ n ih =>
      intro A b0 b1 b2 b3 b4 h_b0 h_b1 h
      unfold f_Prog_valueOf_12 at h
      refine h_blk 15 [(0, vr 2 b0), (1, vr 6 b1), (2, vi b2), (3, vi b3), (4, vi b4)] [vr 6 b1, vi b4] C f_hx_Prog_valueOf_12_2 rfl ?_
      refine h_geti C e_hx_Prog_valueOf_15 fg_Prog_140 h_b1 rfl rfl rfl (A 6 b1 10) rfl ?_
      obtain ⟨c1, h⟩ := igd h
      obtain ⟨c2, h⟩ := igd h
      refine h_icmp_ge (tgt := 173) C e_hx_Prog_valueOf_18 (by decide) c1 c2 (fun c3 => ?_) (fun c3 => ?_)
      · have h := ifp c3 h
        refine h_blk 174 [(0, vr 2 b0), (1, vr 6 b1), (2, vi b2), (3, vi b3), (4, vi b4)] [vr 2 b0] C f_hx_Prog_valueOf_173_1 rfl ?_
        refine h_getr4 C e_hx_Prog_valueOf_174 fg_Prog_27 h_b0 rfl rfl rfl rfl (fun g4 => ?_)
        refine h_blk 178 [(0, vr 2 b0), (1, vr 6 b1), (2, vi b2), (3, vi b3), (4, vi b4)] [vi 0, vr 37 ((A 2 b0 7).toNat)] C f_hx_Prog_valueOf_177_1 rfl ?_
        refine h_iald C e_hx_Prog_valueOf_178 g4 rfl rfl (by decide) (by decide) (by decide) (A 37 ((A 2 b0 7).toNat) 0) rfl ?_
        refine h_nm ?_
        exact h_iret C Rm E e_hx_Prog_valueOf_179 (fin1 h)
      · have h := ifn c3 h
        refine h_blk 25 [(0, vr 2 b0), (1, vr 6 b1), (2, vi b2), (3, vi b3), (4, vi b4)] [vi 120, vi b4] C f_hx_Prog_valueOf_21_2 rfl ?_
        refine h_icmp_ge (tgt := 173) C e_hx_Prog_valueOf_25 (by decide) c1 (by decide) (fun c5 => ?_) (fun c5 => ?_)
        · have h := ifp c5 h
          refine h_blk 174 [(0, vr 2 b0), (1, vr 6 b1), (2, vi b2), (3, vi b3), (4, vi b4)] [vr 2 b0] C f_hx_Prog_valueOf_173_1 rfl ?_
          refine h_getr4 C e_hx_Prog_valueOf_174 fg_Prog_27 h_b0 rfl rfl rfl rfl (fun g6 => ?_)
          refine h_blk 178 [(0, vr 2 b0), (1, vr 6 b1), (2, vi b2), (3, vi b3), (4, vi b4)] [vi 0, vr 37 ((A 2 b0 7).toNat)] C f_hx_Prog_valueOf_177_1 rfl ?_
          refine h_iald C e_hx_Prog_valueOf_178 g6 rfl rfl (by decide) (by decide) (by decide) (A 37 ((A 2 b0 7).toNat) 0) rfl ?_
          refine h_nm ?_
          exact h_iret C Rm E e_hx_Prog_valueOf_179 (fin1 h)
        · have h := ifn c5 h
          refine h_blk 29 [(0, vr 2 b0), (1, vr 6 b1), (2, vi b2), (3, vi b3), (4, vi b4)] [vr 2 b0] C f_hx_Prog_valueOf_28_1 rfl ?_
          refine h_getr4 C e_hx_Prog_valueOf_29 fg_Prog_17 h_b0 rfl rfl rfl rfl (fun g7 => ?_)
          refine h_blk 34 [(0, vr 2 b0), (1, vr 6 b1), (2, vi b2), (3, vi b3), (4, vi b4)] [vi b4, vr 36 ((A 2 b0 2).toNat)] C f_hx_Prog_valueOf_32_1 rfl ?_
          obtain ⟨c8, h⟩ := igd h
          refine h_iald C e_hx_Prog_valueOf_34 g7 rfl rfl (by decide) c8.1 c8.2 (A 36 ((A 2 b0 2).toNat) b4.toNat) rfl ?_
          refine h_blk 42 [(5, vi (A 36 ((A 2 b0 2).toNat) b4.toNat)), (0, vr 2 b0), (1, vr 6 b1), (2, vi b2), (3, vi b3), (4, vi b4)] [vi 200, vi (A 36 ((A 2 b0 2).toNat) b4.toNat)] C f_hx_Prog_valueOf_35_3 rfl ?_
          obtain ⟨c9, h⟩ := igd h
          refine h_icmp_lt (tgt := 93) C e_hx_Prog_valueOf_42 (by decide) c9 (by decide) (fun c10 => ?_) (fun c10 => ?_)
          · have h := ifp c10 h
            refine h_blk 98 [(5, vi (A 36 ((A 2 b0 2).toNat) b4.toNat)), (0, vr 2 b0), (1, vr 6 b1), (2, vi b2), (3, vi b3), (4, vi b4)] [vi 150, vi (A 36 ((A 2 b0 2).toNat) b4.toNat)] C f_hx_Prog_valueOf_93_2 rfl ?_
            refine h_icmp_ne (tgt := 131) C e_hx_Prog_valueOf_98 (by decide) c9 (by decide) (fun c11 => ?_) (fun c11 => ?_)
            · have h := ifn c11 h
              refine h_blk 134 [(5, vi (A 36 ((A 2 b0 2).toNat) b4.toNat)), (0, vr 2 b0), (1, vr 6 b1), (2, vi b2), (3, vi b3), (4, vi b4)] [vi 120, vi b3] C f_hx_Prog_valueOf_131_2 rfl ?_
              obtain ⟨c12, h⟩ := igd h
              refine h_icmp_ge (tgt := 167) C e_hx_Prog_valueOf_134 (by decide) c12 (by decide) (fun c13 => ?_) (fun c13 => ?_)
              · have h := ifp c13 h
                refine h_blk 12 [(4, vi (b4 + 1)), (5, vi (A 36 ((A 2 b0 2).toNat) b4.toNat)), (0, vr 2 b0), (1, vr 6 b1), (2, vi b2), (3, vi b3)] [] C f_hx_Prog_valueOf_167_2 rfl ?_
                refine h_loc [(0, vr 2 b0), (1, vr 6 b1), (2, vi b2), (3, vi b3), (4, vi (b4 + 1))] ⟨rfl, rfl, rfl, rfl, rfl, trivial⟩ ?_
                exact ih A b0 b1 b2 b3 (b4 + 1) (h_b0) (h_b1) h
              · have h := ifn c13 h
                refine h_blk 138 [(5, vi (A 36 ((A 2 b0 2).toNat) b4.toNat)), (0, vr 2 b0), (1, vr 6 b1), (2, vi b2), (3, vi b3), (4, vi b4)] [vr 2 b0] C f_hx_Prog_valueOf_137_1 rfl ?_
                refine h_getr4 C e_hx_Prog_valueOf_138 fg_Prog_27 h_b0 rfl rfl rfl rfl (fun g14 => ?_)
                refine h_blk 146 [(5, vi (A 36 ((A 2 b0 2).toNat) b4.toNat)), (0, vr 2 b0), (1, vr 6 b1), (2, vi b2), (3, vi b3), (4, vi b4)] [vi 100, vi (A 36 ((A 2 b0 2).toNat) b4.toNat), vi b3, vr 37 ((A 2 b0 7).toNat)] C f_hx_Prog_valueOf_141_3 rfl ?_
                refine h_icmp_lt (tgt := 161) C e_hx_Prog_valueOf_146 (by decide) c9 (by decide) (fun c15 => ?_) (fun c15 => ?_)
                · have h := ifp c15 h
                  refine h_blk 163 [(5, vi (A 36 ((A 2 b0 2).toNat) b4.toNat)), (0, vr 2 b0), (1, vr 6 b1), (2, vi b2), (3, vi b3), (4, vi b4)] [vi (A 36 ((A 2 b0 2).toNat) b4.toNat), vi b3, vr 37 ((A 2 b0 7).toNat)] C f_hx_Prog_valueOf_161_1 rfl ?_
                  refine h_nm ?_
                  obtain ⟨c16, h⟩ := igd h
                  refine h_iast C e_hx_Prog_valueOf_163 g14 rfl rfl (by decide) c16.1 c16.2 ?_
                  refine h_blk 12 [(4, vi (b4 + 1)), (3, vi (b3 + 1)), (5, vi (A 36 ((A 2 b0 2).toNat) b4.toNat)), (0, vr 2 b0), (1, vr 6 b1), (2, vi b2)] [] C f_hx_Prog_valueOf_164_3 rfl ?_
                  refine h_loc [(0, vr 2 b0), (1, vr 6 b1), (2, vi b2), (3, vi (b3 + 1)), (4, vi (b4 + 1))] ⟨rfl, rfl, rfl, rfl, rfl, trivial⟩ ?_
                  exact ih (mu A 37 ((A 2 b0 7).toNat) b3.toNat (nm32 (A 36 ((A 2 b0 2).toNat) b4.toNat))) b0 b1 b2 (b3 + 1) (b4 + 1) (h_b0) (h_b1) h
                · have h := ifn c15 h
                  refine h_blk 155 [(5, vi (A 36 ((A 2 b0 2).toNat) b4.toNat)), (0, vr 2 b0), (1, vr 6 b1), (2, vi b2), (3, vi b3), (4, vi b4)] [vi ((A 36 ((A 2 b0 2).toNat) b4.toNat) - 100), vi b2, vi b3, vr 37 ((A 2 b0 7).toNat)] C f_hx_Prog_valueOf_149_4 rfl ?_
                  obtain ⟨q17, e18, h⟩ := obd h
                  refine h_callSn C Rm Y [vi b2, vi ((A 36 ((A 2 b0 2).toNat) b4.toNat) - 100)] [vi b3, vr 37 ((A 2 b0 7).toNat)] (hx_CS_digitAt l D B H0 G _ b2 ((A 36 ((A 2 b0 2).toNat) b4.toNat) - 100) _ _ e18) cl_Prog_146 e_hx_Prog_valueOf_155 rfl rfl rfl ⟨by decide, by decide⟩ ?_
                  rintro _ _ ⟨rfl, rfl⟩
                  show HM g D G q q17.2 158 [(5, vi (A 36 ((A 2 b0 2).toNat) b4.toNat)), (0, vr 2 b0), (1, vr 6 b1), (2, vi b2), (3, vi b3), (4, vi b4)] [vi q17.1, vi b3, vr 37 ((A 2 b0 7).toNat)]
                  refine h_blk 163 [(5, vi (A 36 ((A 2 b0 2).toNat) b4.toNat)), (0, vr 2 b0), (1, vr 6 b1), (2, vi b2), (3, vi b3), (4, vi b4)] [vi q17.1, vi b3, vr 37 ((A 2 b0 7).toNat)] C f_hx_Prog_valueOf_158_1 rfl ?_
                  obtain ⟨c19, h⟩ := igd h
                  refine h_iast C e_hx_Prog_valueOf_163 g14 rfl rfl (by decide) c19.1 c19.2 ?_
                  refine h_blk 12 [(4, vi (b4 + 1)), (3, vi (b3 + 1)), (5, vi (A 36 ((A 2 b0 2).toNat) b4.toNat)), (0, vr 2 b0), (1, vr 6 b1), (2, vi b2)] [] C f_hx_Prog_valueOf_164_3 rfl ?_
                  refine h_loc [(0, vr 2 b0), (1, vr 6 b1), (2, vi b2), (3, vi (b3 + 1)), (4, vi (b4 + 1))] ⟨rfl, rfl, rfl, rfl, rfl, trivial⟩ ?_
                  exact ih (mu q17.2 37 ((A 2 b0 7).toNat) b3.toNat q17.1) b0 b1 b2 (b3 + 1) (b4 + 1) (h_b0) (h_b1) h
            · have h := ifp c11 h
              refine h_blk 102 [(5, vi (A 36 ((A 2 b0 2).toNat) b4.toNat)), (0, vr 2 b0), (1, vr 6 b1), (2, vi b2), (3, vi b3), (4, vi b4)] [vi b3] C f_hx_Prog_valueOf_101_1 rfl ?_
              obtain ⟨c20, h⟩ := igd h
              refine h_if_le (tgt := 167) C e_hx_Prog_valueOf_102 (by decide) c20 (fun c21 => ?_) (fun c21 => ?_)
              · have h := ifp c21 h
                refine h_blk 12 [(4, vi (b4 + 1)), (5, vi (A 36 ((A 2 b0 2).toNat) b4.toNat)), (0, vr 2 b0), (1, vr 6 b1), (2, vi b2), (3, vi b3)] [] C f_hx_Prog_valueOf_167_2 rfl ?_
                refine h_loc [(0, vr 2 b0), (1, vr 6 b1), (2, vi b2), (3, vi b3), (4, vi (b4 + 1))] ⟨rfl, rfl, rfl, rfl, rfl, trivial⟩ ?_
                exact ih A b0 b1 b2 b3 (b4 + 1) (h_b0) (h_b1) h
              · have h := ifn c21 h
                refine h_blk 108 [(5, vi (A 36 ((A 2 b0 2).toNat) b4.toNat)), (0, vr 2 b0), (1, vr 6 b1), (2, vi b2), (3, vi b3), (4, vi b4)] [vi 120, vi b3] C f_hx_Prog_valueOf_105_2 rfl ?_
                refine h_icmp_gt (tgt := 167) C e_hx_Prog_valueOf_108 (by decide) c20 (by decide) (fun c22 => ?_) (fun c22 => ?_)
                · have h := ifp c22 h
                  refine h_blk 12 [(4, vi (b4 + 1)), (5, vi (A 36 ((A 2 b0 2).toNat) b4.toNat)), (0, vr 2 b0), (1, vr 6 b1), (2, vi b2), (3, vi b3)] [] C f_hx_Prog_valueOf_167_2 rfl ?_
                  refine h_loc [(0, vr 2 b0), (1, vr 6 b1), (2, vi b2), (3, vi b3), (4, vi (b4 + 1))] ⟨rfl, rfl, rfl, rfl, rfl, trivial⟩ ?_
                  exact ih A b0 b1 b2 b3 (b4 + 1) (h_b0) (h_b1) h
                · have h := ifn c22 h
                  refine h_blk 112 [(5, vi (A 36 ((A 2 b0 2).toNat) b4.toNat)), (0, vr 2 b0), (1, vr 6 b1), (2, vi b2), (3, vi b3), (4, vi b4)] [vr 2 b0] C f_hx_Prog_valueOf_111_1 rfl ?_
                  refine h_getr4 C e_hx_Prog_valueOf_112 fg_Prog_27 h_b0 rfl rfl rfl rfl (fun g23 => ?_)
                  refine h_blk 119 [(5, vi (A 36 ((A 2 b0 2).toNat) b4.toNat)), (0, vr 2 b0), (1, vr 6 b1), (2, vi b2), (3, vi b3), (4, vi b4)] [vr 2 b0, vi (b3 - 1), vr 37 ((A 2 b0 7).toNat)] C f_hx_Prog_valueOf_115_4 rfl ?_
                  refine h_getr4 C e_hx_Prog_valueOf_119 fg_Prog_27 h_b0 rfl rfl rfl rfl (fun g24 => ?_)
                  refine h_blk 125 [(5, vi (A 36 ((A 2 b0 2).toNat) b4.toNat)), (0, vr 2 b0), (1, vr 6 b1), (2, vi b2), (3, vi b3), (4, vi b4)] [vi (b3 - 1), vr 37 ((A 2 b0 7).toNat), vi (b3 - 1), vr 37 ((A 2 b0 7).toNat)] C f_hx_Prog_valueOf_122_3 rfl ?_
                  obtain ⟨c25, h⟩ := igd h
                  refine h_iald C e_hx_Prog_valueOf_125 g24 rfl rfl (by decide) c25.1 c25.2 (A 37 ((A 2 b0 7).toNat) ((b3 - 1).toNat)) rfl ?_
                  refine h_blk 127 [(5, vi (A 36 ((A 2 b0 2).toNat) b4.toNat)), (0, vr 2 b0), (1, vr 6 b1), (2, vi b2), (3, vi b3), (4, vi b4)] [vi (-(A 37 ((A 2 b0 7).toNat) ((b3 - 1).toNat))), vi (b3 - 1), vr 37 ((A 2 b0 7).toNat)] C f_hx_Prog_valueOf_126_1 rfl ?_
                  refine h_nm ?_
                  refine h_iast C e_hx_Prog_valueOf_127 g24 rfl rfl (by decide) c25.1 c25.2 ?_
                  refine h_blk 167 [(5, vi (A 36 ((A 2 b0 2).toNat) b4.toNat)), (0, vr 2 b0), (1, vr 6 b1), (2, vi b2), (3, vi b3), (4, vi b4)] [] C f_hx_Prog_valueOf_128_1 rfl ?_
                  refine h_blk 12 [(4, vi (b4 + 1)), (5, vi (A 36 ((A 2 b0 2).toNat) b4.toNat)), (0, vr 2 b0), (1, vr 6 b1), (2, vi b2), (3, vi b3)] [] C f_hx_Prog_valueOf_167_2 rfl ?_
                  refine h_loc [(0, vr 2 b0), (1, vr 6 b1), (2, vi b2), (3, vi b3), (4, vi (b4 + 1))] ⟨rfl, rfl, rfl, rfl, rfl, trivial⟩ ?_
                  exact ih (mu A 37 ((A 2 b0 7).toNat) ((b3 - 1).toNat) (nm32 (-(A 37 ((A 2 b0 7).toNat) ((b3 - 1).toNat))))) b0 b1 b2 b3 (b4 + 1) (h_b0) (h_b1) h
          · have h := ifn c10 h
            refine h_blk 47 [(5, vi (A 36 ((A 2 b0 2).toNat) b4.toNat)), (0, vr 2 b0), (1, vr 6 b1), (2, vi b2), (3, vi b3), (4, vi b4)] [vi 1, vi b3] C f_hx_Prog_valueOf_45_2 rfl ?_
            obtain ⟨c26, h⟩ := igd h
            refine h_icmp_le (tgt := 167) C e_hx_Prog_valueOf_47 (by decide) c26 (by decide) (fun c27 => ?_) (fun c27 => ?_)
            · have h := ifp c27 h
              refine h_blk 12 [(4, vi (b4 + 1)), (5, vi (A 36 ((A 2 b0 2).toNat) b4.toNat)), (0, vr 2 b0), (1, vr 6 b1), (2, vi b2), (3, vi b3)] [] C f_hx_Prog_valueOf_167_2 rfl ?_
              refine h_loc [(0, vr 2 b0), (1, vr 6 b1), (2, vi b2), (3, vi b3), (4, vi (b4 + 1))] ⟨rfl, rfl, rfl, rfl, rfl, trivial⟩ ?_
              exact ih A b0 b1 b2 b3 (b4 + 1) (h_b0) (h_b1) h
            · have h := ifn c27 h
              refine h_blk 53 [(5, vi (A 36 ((A 2 b0 2).toNat) b4.toNat)), (0, vr 2 b0), (1, vr 6 b1), (2, vi b2), (3, vi b3), (4, vi b4)] [vi 120, vi b3] C f_hx_Prog_valueOf_50_2 rfl ?_
              refine h_icmp_gt (tgt := 167) C e_hx_Prog_valueOf_53 (by decide) c26 (by decide) (fun c28 => ?_) (fun c28 => ?_)
              · have h := ifp c28 h
                refine h_blk 12 [(4, vi (b4 + 1)), (5, vi (A 36 ((A 2 b0 2).toNat) b4.toNat)), (0, vr 2 b0), (1, vr 6 b1), (2, vi b2), (3, vi b3)] [] C f_hx_Prog_valueOf_167_2 rfl ?_
                refine h_loc [(0, vr 2 b0), (1, vr 6 b1), (2, vi b2), (3, vi b3), (4, vi (b4 + 1))] ⟨rfl, rfl, rfl, rfl, rfl, trivial⟩ ?_
                exact ih A b0 b1 b2 b3 (b4 + 1) (h_b0) (h_b1) h
              · have h := ifn c28 h
                refine h_blk 60 [(3, vi (b3 + (-1))), (5, vi (A 36 ((A 2 b0 2).toNat) b4.toNat)), (0, vr 2 b0), (1, vr 6 b1), (2, vi b2), (4, vi b4)] [vr 2 b0] C f_hx_Prog_valueOf_56_2 rfl ?_
                refine h_getr4 C e_hx_Prog_valueOf_60 fg_Prog_27 h_b0 rfl rfl rfl rfl (fun g29 => ?_)
                refine h_blk 73 [(3, vi (b3 + (-1))), (5, vi (A 36 ((A 2 b0 2).toNat) b4.toNat)), (0, vr 2 b0), (1, vr 6 b1), (2, vi b2), (4, vi b4)] [vr 2 b0, vi ((A 36 ((A 2 b0 2).toNat) b4.toNat) - 200), vi ((b3 + (-1)) - 1), vr 37 ((A 2 b0 7).toNat)] C f_hx_Prog_valueOf_63_7 rfl ?_
                refine h_getr4 C e_hx_Prog_valueOf_73 fg_Prog_27 h_b0 rfl rfl rfl rfl (fun g30 => ?_)
                refine h_blk 79 [(3, vi (b3 + (-1))), (5, vi (A 36 ((A 2 b0 2).toNat) b4.toNat)), (0, vr 2 b0), (1, vr 6 b1), (2, vi b2), (4, vi b4)] [vi ((b3 + (-1)) - 1), vr 37 ((A 2 b0 7).toNat), vi ((A 36 ((A 2 b0 2).toNat) b4.toNat) - 200), vi ((b3 + (-1)) - 1), vr 37 ((A 2 b0 7).toNat)] C f_hx_Prog_valueOf_76_3 rfl ?_
                obtain ⟨c31, h⟩ := igd h
                refine h_iald C e_hx_Prog_valueOf_79 g30 rfl rfl (by decide) c31.1 c31.2 (A 37 ((A 2 b0 7).toNat) (((b3 + (-1)) - 1).toNat)) rfl ?_
                refine h_blk 81 [(3, vi (b3 + (-1))), (5, vi (A 36 ((A 2 b0 2).toNat) b4.toNat)), (0, vr 2 b0), (1, vr 6 b1), (2, vi b2), (4, vi b4)] [vr 2 b0, vi (A 37 ((A 2 b0 7).toNat) (((b3 + (-1)) - 1).toNat)), vi ((A 36 ((A 2 b0 2).toNat) b4.toNat) - 200), vi ((b3 + (-1)) - 1), vr 37 ((A 2 b0 7).toNat)] C f_hx_Prog_valueOf_80_1 rfl ?_
                refine h_getr4 C e_hx_Prog_valueOf_81 fg_Prog_27 h_b0 rfl rfl rfl rfl (fun g32 => ?_)
                refine h_blk 85 [(3, vi (b3 + (-1))), (5, vi (A 36 ((A 2 b0 2).toNat) b4.toNat)), (0, vr 2 b0), (1, vr 6 b1), (2, vi b2), (4, vi b4)] [vi (b3 + (-1)), vr 37 ((A 2 b0 7).toNat), vi (A 37 ((A 2 b0 7).toNat) (((b3 + (-1)) - 1).toNat)), vi ((A 36 ((A 2 b0 2).toNat) b4.toNat) - 200), vi ((b3 + (-1)) - 1), vr 37 ((A 2 b0 7).toNat)] C f_hx_Prog_valueOf_84_1 rfl ?_
                obtain ⟨c33, h⟩ := igd h
                refine h_iald C e_hx_Prog_valueOf_85 g32 rfl rfl (by decide) c33.1 c33.2 (A 37 ((A 2 b0 7).toNat) ((b3 + (-1)).toNat)) rfl ?_
                obtain ⟨q34, e35, h⟩ := obd h
                refine h_callS C Rm Y [vi ((A 36 ((A 2 b0 2).toNat) b4.toNat) - 200), vi (A 37 ((A 2 b0 7).toNat) (((b3 + (-1)) - 1).toNat)), vi (A 37 ((A 2 b0 7).toNat) ((b3 + (-1)).toNat))] [vi ((b3 + (-1)) - 1), vr 37 ((A 2 b0 7).toNat)] (hx_Prog_joined l D B H0 G _ ((A 36 ((A 2 b0 2).toNat) b4.toNat) - 200) (A 37 ((A 2 b0 7).toNat) (((b3 + (-1)) - 1).toNat)) (A 37 ((A 2 b0 7).toNat) ((b3 + (-1)).toNat)) _ _ e35) cl_Prog_143 e_hx_Prog_valueOf_86 rfl rfl rfl ⟨by decide, by decide⟩ ?_
                rintro _ _ ⟨rfl, rfl⟩
                show HM g D G q q34.2 89 [(3, vi (b3 + (-1))), (5, vi (A 36 ((A 2 b0 2).toNat) b4.toNat)), (0, vr 2 b0), (1, vr 6 b1), (2, vi b2), (4, vi b4)] [vi q34.1, vi ((b3 + (-1)) - 1), vr 37 ((A 2 b0 7).toNat)]
                refine h_iast C e_hx_Prog_valueOf_89 g32 rfl rfl (by decide) c31.1 c31.2 ?_
                refine h_blk 167 [(3, vi (b3 + (-1))), (5, vi (A 36 ((A 2 b0 2).toNat) b4.toNat)), (0, vr 2 b0), (1, vr 6 b1), (2, vi b2), (4, vi b4)] [] C f_hx_Prog_valueOf_90_1 rfl ?_
                refine h_blk 12 [(4, vi (b4 + 1)), (3, vi (b3 + (-1))), (5, vi (A 36 ((A 2 b0 2).toNat) b4.toNat)), (0, vr 2 b0), (1, vr 6 b1), (2, vi b2)] [] C f_hx_Prog_valueOf_167_2 rfl ?_
                refine h_loc [(0, vr 2 b0), (1, vr 6 b1), (2, vi b2), (3, vi (b3 + (-1))), (4, vi (b4 + 1))] ⟨rfl, rfl, rfl, rfl, rfl, trivial⟩ ?_
                exact ih (mu q34.2 37 ((A 2 b0 7).toNat) (((b3 + (-1)) - 1).toNat) q34.1) b0 b1 b2 (b3 + (-1)) (b4 + 1) (h_b0) (h_b1) h
  show HM g D G q A 0 [(0, vr 2 o), (1, vr 6 a0), (2, vi a1)] []
  unfold f_Prog_valueOf at h
  refine h_blk 4 [(3, vi 0), (0, vr 2 o), (1, vr 6 a0), (2, vi a1)] [vr 6 a0, vi 0] C f_hx_Prog_valueOf_0_4 rfl ?_
  refine h_geti C e_hx_Prog_valueOf_4 fg_Prog_137 h_a0 rfl rfl rfl (A 6 a0 9) rfl ?_
  obtain ⟨c36, h⟩ := igd h
  refine h_mmax C Rm cl_Prog_68 e_hx_Prog_valueOf_7 (by decide) (Nat.le_of_ble_eq_true rfl) (by decide) c36 (fun z37 hz37 => ?_)
  obtain rfl : z37 = max 0 (A 6 a0 9) := by omega
  refine h_blk 12 [(4, vi (max 0 (A 6 a0 9))), (3, vi 0), (0, vr 2 o), (1, vr 6 a0), (2, vi a1)] [] C f_hx_Prog_valueOf_10_1 rfl ?_
  refine h_loc [(0, vr 2 o), (1, vr 6 a0), (2, vi a1), (3, vi 0), (4, vi (max 0 (A 6 a0 9)))] ⟨rfl, rfl, rfl, rfl, rfl, trivial⟩ ?_
  exact hd_12 _ A o a0 a1 0 (max 0 (A 6 a0 9)) (h_o) (h_a0) h

def f_Prog_digitOf (A : mA) (o : Nat) (a0 : Nat) (a1 : Int) : Option (Int × mA) := (Option.bind (f_Prog_valueOf A o a0 a1) (fun q1 => (Option.bind (f_Math_floorMod q1.2 q1.1 10) (fun q3 => (some (q3.1, q3.2))))))
theorem f_hx_Prog_digitOf_0_3 : mblkB b_Prog_digitOf [(0, .aload_n 0, vi 0), (1, .aload_n 1, vi 0), (2, .iload_n 2, vi 0)] = true := by decide +kernel
theorem e_hx_Prog_digitOf_3 : decode b_Prog_digitOf 3 = .ok (.invokevirtual 149, 3) := by decide +kernel
theorem f_hx_Prog_digitOf_6_1 : mblkB b_Prog_digitOf [(6, .bipush 10, vi 10)] = true := by decide +kernel
theorem e_hx_Prog_digitOf_8 : decode b_Prog_digitOf 8 = .ok (.invokestatic 153, 3) := by decide +kernel
theorem e_hx_Prog_digitOf_11 : decode b_Prog_digitOf 11 = .ok (.ireturn, 1) := by decide +kernel
set_option maxHeartbeats 4000000 in
set_option maxRecDepth 20000 in
theorem hx_Prog_digitOf  : ∀ (l : Launch) (D : va_G) (B : Nat) (H0 : Heap) (G : tG) (A : mA) (o : Nat) (a0 : Nat) (a1 : Int) (h_o : G o = some 2) (h_a0 : G a0 = some 6)  (r9 : Int) (A9 : mA), f_Prog_digitOf  A o a0 a1 = some (r9, A9) → hMet l D B H0 G y_Prog_digitOf b_Prog_digitOf 3 (some .int) 2 65 [vr 2 o, vr 6 a0, vi a1] A (fun v A' => v = some (vi r9) ∧ A' = A9) := by
  intro l D B H0 G A o a0 a1 h_o h_a0 r9 A9 h
  refine h_met (by decide) rfl (fun g q C Rm Y E => ?_)
  show HM g D G q A 0 [(0, vr 2 o), (1, vr 6 a0), (2, vi a1)] []
  unfold f_Prog_digitOf at h
  refine h_blk 3 [(0, vr 2 o), (1, vr 6 a0), (2, vi a1)] [vi a1, vr 6 a0, vr 2 o] C f_hx_Prog_digitOf_0_3 rfl ?_
  obtain ⟨q1, e2, h⟩ := obd h
  refine h_callV C Rm Y [vr 6 a0, vi a1] [] (hx_Prog_valueOf l D B H0 G _ o a0 a1 h_o h_a0 _ _ e2) cl_Prog_149 h_o rfl rfl rfl e_hx_Prog_digitOf_3 rfl rfl rfl ⟨by decide, by decide⟩ ?_
  rintro _ _ ⟨rfl, rfl⟩
  show HM g D G q q1.2 6 [(0, vr 2 o), (1, vr 6 a0), (2, vi a1)] [vi q1.1]
  refine h_blk 8 [(0, vr 2 o), (1, vr 6 a0), (2, vi a1)] [vi 10, vi q1.1] C f_hx_Prog_digitOf_6_1 rfl ?_
  obtain ⟨q3, e4, h⟩ := obd h
  refine h_callS C Rm Y [vi q1.1, vi 10] [] (hx_Math_floorMod l D B H0 G _ q1.1 10 _ _ e4) cl_Prog_153 e_hx_Prog_digitOf_8 rfl rfl rfl ⟨by decide, by decide⟩ ?_
  rintro _ _ ⟨rfl, rfl⟩
  show HM g D G q q3.2 11 [(0, vr 2 o), (1, vr 6 a0), (2, vi a1)] [vi q3.1]
  exact h_iret C Rm E e_hx_Prog_digitOf_11 (fin1 h)

def f_Prog_lotValue (A : mA) (o : Nat) (a0 : Nat) (a1 : Int) : Option (Int × mA) := (if g32 ((A 6 a0 11) + a1) then (if ((A 6 a0 11) + a1) < 0 then (some (0, A)) else (if g32 ((60 : Nat) : Int) then (if ((60 : Nat) : Int) ≤ ((A 6 a0 11) + a1) then (some (0, A)) else (if (0 ≤ ((A 6 a0 11) + a1) ∧ ((A 6 a0 11) + a1) < ((60 : Nat) : Int)) then (some ((A 27 ((A 2 o 4).toNat) (((A 6 a0 11) + a1).toNat)), A)) else none)) else none)) else none)
theorem f_hx_Prog_lotValue_0_1 : mblkB b_Prog_lotValue [(0, .aload_n 1, vi 0)] = true := by decide +kernel
theorem e_hx_Prog_lotValue_1 : decode b_Prog_lotValue 1 = .ok (.getfield 62, 3) := by decide +kernel
theorem f_hx_Prog_lotValue_4_4 : mblkB b_Prog_lotValue [(4, .iload_n 2, vi 0), (5, .iadd, vi 0), (6, .istore_n 3, vi 0), (7, .iload_n 3, vi 0)] = true := by decide +kernel
theorem e_hx_Prog_lotValue_8 : decode b_Prog_lotValue 8 = .ok (.ifCond .lt 21, 3) := by decide +kernel
theorem f_hx_Prog_lotValue_29_1 : mblkB b_Prog_lotValue [(29, .iconst 0, vi 0)] = true := by decide +kernel
theorem e_hx_Prog_lotValue_30 : decode b_Prog_lotValue 30 = .ok (.ireturn, 1) := by decide +kernel
theorem f_hx_Prog_lotValue_11_2 : mblkB b_Prog_lotValue [(11, .iload_n 3, vi 0), (12, .aload_n 0, vi 0)] = true := by decide +kernel
theorem e_hx_Prog_lotValue_13 : decode b_Prog_lotValue 13 = .ok (.getfield 21, 3) := by decide +kernel
theorem e_hx_Prog_lotValue_16 : decode b_Prog_lotValue 16 = .ok (.arraylength, 1) := by decide +kernel
theorem e_hx_Prog_lotValue_17 : decode b_Prog_lotValue 17 = .ok (.if_icmp .ge 12, 3) := by decide +kernel
theorem f_hx_Prog_lotValue_20_1 : mblkB b_Prog_lotValue [(20, .aload_n 0, vi 0)] = true := by decide +kernel
theorem e_hx_Prog_lotValue_21 : decode b_Prog_lotValue 21 = .ok (.getfield 21, 3) := by decide +kernel
theorem f_hx_Prog_lotValue_24_1 : mblkB b_Prog_lotValue [(24, .iload_n 3, vi 0)] = true := by decide +kernel
theorem e_hx_Prog_lotValue_25 : decode b_Prog_lotValue 25 = .ok (.iaload, 1) := by decide +kernel
theorem f_hx_Prog_lotValue_26_1 : mblkB b_Prog_lotValue [(26, .goto 4, vi 30)] = true := by decide +kernel
set_option maxHeartbeats 4000000 in
set_option maxRecDepth 20000 in
theorem hx_Prog_lotValue  : ∀ (l : Launch) (D : va_G) (B : Nat) (H0 : Heap) (G : tG) (A : mA) (o : Nat) (a0 : Nat) (a1 : Int) (h_o : G o = some 2) (h_a0 : G a0 = some 6)  (r9 : Int) (A9 : mA), f_Prog_lotValue  A o a0 a1 = some (r9, A9) → hMet l D B H0 G y_Prog_lotValue b_Prog_lotValue 4 (some .int) 0 0 [vr 2 o, vr 6 a0, vi a1] A (fun v A' => v = some (vi r9) ∧ A' = A9) := by
  intro l D B H0 G A o a0 a1 h_o h_a0 r9 A9 h
  refine h_met (by decide) rfl (fun g q C Rm Y E => ?_)
  show HM g D G q A 0 [(0, vr 2 o), (1, vr 6 a0), (2, vi a1)] []
  unfold f_Prog_lotValue at h
  refine h_blk 1 [(0, vr 2 o), (1, vr 6 a0), (2, vi a1)] [vr 6 a0] C f_hx_Prog_lotValue_0_1 rfl ?_
  refine h_geti C e_hx_Prog_lotValue_1 fg_Prog_62 h_a0 rfl rfl rfl (A 6 a0 11) rfl ?_
  refine h_blk 8 [(3, vi ((A 6 a0 11) + a1)), (0, vr 2 o), (1, vr 6 a0), (2, vi a1)] [vi ((A 6 a0 11) + a1)] C f_hx_Prog_lotValue_4_4 rfl ?_
  obtain ⟨c1, h⟩ := igd h
  refine h_if_lt (tgt := 29) C e_hx_Prog_lotValue_8 (by decide) c1 (fun c2 => ?_) (fun c2 => ?_)
  · have h := ifp c2 h
    refine h_blk 30 [(3, vi ((A 6 a0 11) + a1)), (0, vr 2 o), (1, vr 6 a0), (2, vi a1)] [vi 0] C f_hx_Prog_lotValue_29_1 rfl ?_
    exact h_iret C Rm E e_hx_Prog_lotValue_30 (fin1 h)
  · have h := ifn c2 h
    refine h_blk 13 [(3, vi ((A 6 a0 11) + a1)), (0, vr 2 o), (1, vr 6 a0), (2, vi a1)] [vr 2 o, vi ((A 6 a0 11) + a1)] C f_hx_Prog_lotValue_11_2 rfl ?_
    refine h_getr4 C e_hx_Prog_lotValue_13 fg_Prog_21 h_o rfl rfl rfl rfl (fun g3 => ?_)
    refine h_alen C e_hx_Prog_lotValue_16 g3 rfl rfl ?_
    obtain ⟨c4, h⟩ := igd h
    refine h_icmp_ge (tgt := 29) C e_hx_Prog_lotValue_17 (by decide) c1 c4 (fun c5 => ?_) (fun c5 => ?_)
    · have h := ifp c5 h
      refine h_blk 30 [(3, vi ((A 6 a0 11) + a1)), (0, vr 2 o), (1, vr 6 a0), (2, vi a1)] [vi 0] C f_hx_Prog_lotValue_29_1 rfl ?_
      exact h_iret C Rm E e_hx_Prog_lotValue_30 (fin1 h)
    · have h := ifn c5 h
      refine h_blk 21 [(3, vi ((A 6 a0 11) + a1)), (0, vr 2 o), (1, vr 6 a0), (2, vi a1)] [vr 2 o] C f_hx_Prog_lotValue_20_1 rfl ?_
      refine h_getr4 C e_hx_Prog_lotValue_21 fg_Prog_21 h_o rfl rfl rfl rfl (fun g6 => ?_)
      refine h_blk 25 [(3, vi ((A 6 a0 11) + a1)), (0, vr 2 o), (1, vr 6 a0), (2, vi a1)] [vi ((A 6 a0 11) + a1), vr 27 ((A 2 o 4).toNat)] C f_hx_Prog_lotValue_24_1 rfl ?_
      obtain ⟨c7, h⟩ := igd h
      refine h_iald C e_hx_Prog_lotValue_25 g6 rfl rfl (by decide) c7.1 c7.2 (A 27 ((A 2 o 4).toNat) (((A 6 a0 11) + a1).toNat)) rfl ?_
      refine h_blk 30 [(3, vi ((A 6 a0 11) + a1)), (0, vr 2 o), (1, vr 6 a0), (2, vi a1)] [vi (A 27 ((A 2 o 4).toNat) (((A 6 a0 11) + a1).toNat))] C f_hx_Prog_lotValue_26_1 rfl ?_
      exact h_iret C Rm E e_hx_Prog_lotValue_30 (fin1 h)

def f_Prog_lotWeight (A : mA) (o : Nat) (a0 : Nat) (a1 : Int) : Option (Int × mA) := (if g32 ((A 6 a0 11) + a1) then (if ((A 6 a0 11) + a1) < 0 then (some (0, A)) else (if g32 ((60 : Nat) : Int) then (if ((60 : Nat) : Int) ≤ ((A 6 a0 11) + a1) then (some (0, A)) else (if (0 ≤ ((A 6 a0 11) + a1) ∧ ((A 6 a0 11) + a1) < ((60 : Nat) : Int)) then (some ((A 27 ((A 2 o 5).toNat) (((A 6 a0 11) + a1).toNat)), A)) else none)) else none)) else none)
theorem f_hx_Prog_lotWeight_0_1 : mblkB b_Prog_lotWeight [(0, .aload_n 1, vi 0)] = true := by decide +kernel
theorem e_hx_Prog_lotWeight_1 : decode b_Prog_lotWeight 1 = .ok (.getfield 62, 3) := by decide +kernel
theorem f_hx_Prog_lotWeight_4_4 : mblkB b_Prog_lotWeight [(4, .iload_n 2, vi 0), (5, .iadd, vi 0), (6, .istore_n 3, vi 0), (7, .iload_n 3, vi 0)] = true := by decide +kernel
theorem e_hx_Prog_lotWeight_8 : decode b_Prog_lotWeight 8 = .ok (.ifCond .lt 21, 3) := by decide +kernel
theorem f_hx_Prog_lotWeight_29_1 : mblkB b_Prog_lotWeight [(29, .iconst 0, vi 0)] = true := by decide +kernel
theorem e_hx_Prog_lotWeight_30 : decode b_Prog_lotWeight 30 = .ok (.ireturn, 1) := by decide +kernel
theorem f_hx_Prog_lotWeight_11_2 : mblkB b_Prog_lotWeight [(11, .iload_n 3, vi 0), (12, .aload_n 0, vi 0)] = true := by decide +kernel
theorem e_hx_Prog_lotWeight_13 : decode b_Prog_lotWeight 13 = .ok (.getfield 24, 3) := by decide +kernel
theorem e_hx_Prog_lotWeight_16 : decode b_Prog_lotWeight 16 = .ok (.arraylength, 1) := by decide +kernel
theorem e_hx_Prog_lotWeight_17 : decode b_Prog_lotWeight 17 = .ok (.if_icmp .ge 12, 3) := by decide +kernel
theorem f_hx_Prog_lotWeight_20_1 : mblkB b_Prog_lotWeight [(20, .aload_n 0, vi 0)] = true := by decide +kernel
theorem e_hx_Prog_lotWeight_21 : decode b_Prog_lotWeight 21 = .ok (.getfield 24, 3) := by decide +kernel
theorem f_hx_Prog_lotWeight_24_1 : mblkB b_Prog_lotWeight [(24, .iload_n 3, vi 0)] = true := by decide +kernel
theorem e_hx_Prog_lotWeight_25 : decode b_Prog_lotWeight 25 = .ok (.iaload, 1) := by decide +kernel
theorem f_hx_Prog_lotWeight_26_1 : mblkB b_Prog_lotWeight [(26, .goto 4, vi 30)] = true := by decide +kernel
set_option maxHeartbeats 4000000 in
set_option maxRecDepth 20000 in
theorem hx_Prog_lotWeight  : ∀ (l : Launch) (D : va_G) (B : Nat) (H0 : Heap) (G : tG) (A : mA) (o : Nat) (a0 : Nat) (a1 : Int) (h_o : G o = some 2) (h_a0 : G a0 = some 6)  (r9 : Int) (A9 : mA), f_Prog_lotWeight  A o a0 a1 = some (r9, A9) → hMet l D B H0 G y_Prog_lotWeight b_Prog_lotWeight 4 (some .int) 0 0 [vr 2 o, vr 6 a0, vi a1] A (fun v A' => v = some (vi r9) ∧ A' = A9) := by
  intro l D B H0 G A o a0 a1 h_o h_a0 r9 A9 h
  refine h_met (by decide) rfl (fun g q C Rm Y E => ?_)
  show HM g D G q A 0 [(0, vr 2 o), (1, vr 6 a0), (2, vi a1)] []
  unfold f_Prog_lotWeight at h
  refine h_blk 1 [(0, vr 2 o), (1, vr 6 a0), (2, vi a1)] [vr 6 a0] C f_hx_Prog_lotWeight_0_1 rfl ?_
  refine h_geti C e_hx_Prog_lotWeight_1 fg_Prog_62 h_a0 rfl rfl rfl (A 6 a0 11) rfl ?_
  refine h_blk 8 [(3, vi ((A 6 a0 11) + a1)), (0, vr 2 o), (1, vr 6 a0), (2, vi a1)] [vi ((A 6 a0 11) + a1)] C f_hx_Prog_lotWeight_4_4 rfl ?_
  obtain ⟨c1, h⟩ := igd h
  refine h_if_lt (tgt := 29) C e_hx_Prog_lotWeight_8 (by decide) c1 (fun c2 => ?_) (fun c2 => ?_)
  · have h := ifp c2 h
    refine h_blk 30 [(3, vi ((A 6 a0 11) + a1)), (0, vr 2 o), (1, vr 6 a0), (2, vi a1)] [vi 0] C f_hx_Prog_lotWeight_29_1 rfl ?_
    exact h_iret C Rm E e_hx_Prog_lotWeight_30 (fin1 h)
  · have h := ifn c2 h
    refine h_blk 13 [(3, vi ((A 6 a0 11) + a1)), (0, vr 2 o), (1, vr 6 a0), (2, vi a1)] [vr 2 o, vi ((A 6 a0 11) + a1)] C f_hx_Prog_lotWeight_11_2 rfl ?_
    refine h_getr4 C e_hx_Prog_lotWeight_13 fg_Prog_24 h_o rfl rfl rfl rfl (fun g3 => ?_)
    refine h_alen C e_hx_Prog_lotWeight_16 g3 rfl rfl ?_
    obtain ⟨c4, h⟩ := igd h
    refine h_icmp_ge (tgt := 29) C e_hx_Prog_lotWeight_17 (by decide) c1 c4 (fun c5 => ?_) (fun c5 => ?_)
    · have h := ifp c5 h
      refine h_blk 30 [(3, vi ((A 6 a0 11) + a1)), (0, vr 2 o), (1, vr 6 a0), (2, vi a1)] [vi 0] C f_hx_Prog_lotWeight_29_1 rfl ?_
      exact h_iret C Rm E e_hx_Prog_lotWeight_30 (fin1 h)
    · have h := ifn c5 h
      refine h_blk 21 [(3, vi ((A 6 a0 11) + a1)), (0, vr 2 o), (1, vr 6 a0), (2, vi a1)] [vr 2 o] C f_hx_Prog_lotWeight_20_1 rfl ?_
      refine h_getr4 C e_hx_Prog_lotWeight_21 fg_Prog_24 h_o rfl rfl rfl rfl (fun g6 => ?_)
      refine h_blk 25 [(3, vi ((A 6 a0 11) + a1)), (0, vr 2 o), (1, vr 6 a0), (2, vi a1)] [vi ((A 6 a0 11) + a1), vr 27 ((A 2 o 5).toNat)] C f_hx_Prog_lotWeight_24_1 rfl ?_
      obtain ⟨c7, h⟩ := igd h
      refine h_iald C e_hx_Prog_lotWeight_25 g6 rfl rfl (by decide) c7.1 c7.2 (A 27 ((A 2 o 5).toNat) (((A 6 a0 11) + a1).toNat)) rfl ?_
      refine h_blk 30 [(3, vi ((A 6 a0 11) + a1)), (0, vr 2 o), (1, vr 6 a0), (2, vi a1)] [vi (A 27 ((A 2 o 5).toNat) (((A 6 a0 11) + a1).toNat))] C f_hx_Prog_lotWeight_26_1 rfl ?_
      exact h_iret C Rm E e_hx_Prog_lotWeight_30 (fin1 h)

def f_Walk_drawn_38 : Nat → mA → Nat → Nat → Int → Int → Int → Option (Int × mA)
  | 0, _, _, _, _, _, _ => none
  | n + 1, A, b1, b2, b3, b4, b5 => (if g32 b5 then (if 8 ≤ b5 then (Option.bind (f_Prog_lotValue A b1 b2 b4) (fun q3 => (some (q3.1, q3.2)))) else (Option.bind (f_Prog_lotWeight A b1 b2 b4) (fun q5 => (if g32 b3 then if g32 q5.1 then (if b3 < q5.1 then (Option.bind (f_Prog_lotValue q5.2 b1 b2 b4) (fun q10 => (some (q10.1, q10.2)))) else (Option.bind (f_Prog_lotWeight q5.2 b1 b2 b4) (fun q12 => (f_Walk_drawn_38  n q12.2 b1 b2 (b3 - q12.1) (b4 + 1) (b5 + 1))))) else none else none)))) else none)
def f_Walk_drawn (A : mA) (o : Nat) (a0 : Nat) (a1 : Nat) : Option (Int × mA) := (f_Walk_drawn_38  20 (mu A 7 o 3 (((A 7 o 3) * 1103515245) + 12345)) a0 a1 (iAnd (iUsh (((A 7 o 3) * 1103515245) + 12345) 9) ((iShl 1 (A 6 a1 7)) - 1)) 0 0)
theorem f_hx_Walk_drawn_0_2 : mblkB b_Walk_drawn [(0, .aload_n 0, vi 0), (1, .aload_n 0, vi 0)] = true := by decide +kernel
theorem e_hx_Walk_drawn_2 : decode b_Walk_drawn 2 = .ok (.getfield 220, 3) := by decide +kernel
theorem e_hx_Walk_drawn_5 : decode b_Walk_drawn 5 = .ok (.ldc 242, 2) := by decide +kernel
theorem f_hx_Walk_drawn_7_3 : mblkB b_Walk_drawn [(7, .imul, vi 0), (8, .sipush 12345, vi 12345), (11, .iadd, vi 0)] = true := by decide +kernel
theorem e_hx_Walk_drawn_12 : decode b_Walk_drawn 12 = .ok (.putfield 220, 3) := by decide +kernel
theorem f_hx_Walk_drawn_15_1 : mblkB b_Walk_drawn [(15, .aload_n 0, vi 0)] = true := by decide +kernel
theorem e_hx_Walk_drawn_16 : decode b_Walk_drawn 16 = .ok (.getfield 220, 3) := by decide +kernel
theorem f_hx_Walk_drawn_19_4 : mblkB b_Walk_drawn [(19, .bipush 9, vi 9), (21, .iushr, vi 0), (22, .iconst 1, vi 1), (23, .aload_n 2, vi 0)] = true := by decide +kernel
theorem e_hx_Walk_drawn_24 : decode b_Walk_drawn 24 = .ok (.getfield 145, 3) := by decide +kernel
theorem f_hx_Walk_drawn_27_9 : mblkB b_Walk_drawn [(27, .ishl, vi 0), (28, .iconst 1, vi 1), (29, .isub, vi 0), (30, .iand, vi 0), (31, .istore_n 3, vi 0), (32, .iconst 0, vi 0), (33, .istore 4, vi 0), (35, .iconst 0, vi 0), (36, .istore 5, vi 0)] = true := by decide +kernel
theorem f_hx_Walk_drawn_38_2 : mblkB b_Walk_drawn [(38, .iload 5, vi 0), (40, .bipush 8, vi 8)] = true := by decide +kernel
theorem e_hx_Walk_drawn_42 : decode b_Walk_drawn 42 = .ok (.if_icmp .ge 33, 3) := by decide +kernel
theorem f_hx_Walk_drawn_75_3 : mblkB b_Walk_drawn [(75, .aload_n 1, vi 0), (76, .aload_n 2, vi 0), (77, .iload 4, vi 0)] = true := by decide +kernel
theorem e_hx_Walk_drawn_79 : decode b_Walk_drawn 79 = .ok (.invokevirtual 131, 3) := by decide +kernel
theorem e_hx_Walk_drawn_82 : decode b_Walk_drawn 82 = .ok (.ireturn, 1) := by decide +kernel
theorem f_hx_Walk_drawn_45_4 : mblkB b_Walk_drawn [(45, .iload_n 3, vi 0), (46, .aload_n 1, vi 0), (47, .aload_n 2, vi 0), (48, .iload 4, vi 0)] = true := by decide +kernel
theorem e_hx_Walk_drawn_50 : decode b_Walk_drawn 50 = .ok (.invokevirtual 142, 3) := by decide +kernel
theorem e_hx_Walk_drawn_53 : decode b_Walk_drawn 53 = .ok (.if_icmp .lt 22, 3) := by decide +kernel
theorem f_hx_Walk_drawn_56_4 : mblkB b_Walk_drawn [(56, .iload_n 3, vi 0), (57, .aload_n 1, vi 0), (58, .aload_n 2, vi 0), (59, .iload 4, vi 0)] = true := by decide +kernel
theorem e_hx_Walk_drawn_61 : decode b_Walk_drawn 61 = .ok (.invokevirtual 142, 3) := by decide +kernel
theorem f_hx_Walk_drawn_64_5 : mblkB b_Walk_drawn [(64, .isub, vi 0), (65, .istore_n 3, vi 0), (66, .iinc 4 1, vi 1), (69, .iinc 5 1, vi 1), (72, .goto (-34), vi 38)] = true := by decide +kernel
set_option maxHeartbeats 4000000 in
set_option maxRecDepth 20000 in
theorem hx_Walk_drawn  : ∀ (l : Launch) (D : va_G) (B : Nat) (H0 : Heap) (G : tG) (A : mA) (o : Nat) (a0 : Nat) (a1 : Nat) (h_o : G o = some 7) (h_a0 : G a0 = some 2) (h_a1 : G a1 = some 6)  (r9 : Int) (A9 : mA), f_Walk_drawn  A o a0 a1 = some (r9, A9) → hMet l D B H0 G y_Walk_drawn b_Walk_drawn 6 (some .int) 1 23 [vr 7 o, vr 2 a0, vr 6 a1] A (fun v A' => v = some (vi r9) ∧ A' = A9) := by
  intro l D B H0 G A o a0 a1 h_o h_a0 h_a1 r9 A9 h
  refine h_met (by decide) rfl (fun g q C Rm Y E => ?_)
  have hd_38 : ∀ (n : Nat) (A : mA) (b1 : Nat) (b2 : Nat) (b3 : Int) (b4 : Int) (b5 : Int) , G b1 = some 2 → G b2 = some 6 → f_Walk_drawn_38  n A b1 b2 b3 b4 b5 = some (r9, A9) → HM g D G q A 38 [(1, vr 2 b1), (2, vr 6 b2), (3, vi b3), (4, vi b4), (5, vi b5)] [] := by
    intro n
    induction n with
    | zero => intro A b1 b2 b3 b4 b5 h_b1 h_b2 h; cases h
    | succ n ih =>
      intro A b1 b2 b3 b4 b5 h_b1 h_b2 h
      unfold f_Walk_drawn_38 at h
      refine h_blk 42 [(1, vr 2 b1), (2, vr 6 b2), (3, vi b3), (4, vi b4), (5, vi b5)] [vi 8, vi b5] C f_hx_Walk_drawn_38_2 rfl ?_
      obtain ⟨c1, h⟩ := igd h
      refine h_icmp_ge (tgt := 75) C e_hx_Walk_drawn_42 (by decide) c1 (by decide) (fun c2 => ?_) (fun c2 => ?_)
      · have h := ifp c2 h
        refine h_blk 79 [(1, vr 2 b1), (2, vr 6 b2), (3, vi b3), (4, vi b4), (5, vi b5)] [vi b4, vr 6 b2, vr 2 b1] C f_hx_Walk_drawn_75_3 rfl ?_
        obtain ⟨q3, e4, h⟩ := obd h
        refine h_callV C Rm Y [vr 6 b2, vi b4] [] (hx_Prog_lotValue l D B H0 G _ b1 b2 b4 h_b1 h_b2 _ _ e4) cl_Walk_131 h_b1 rfl rfl rfl e_hx_Walk_drawn_79 rfl rfl rfl ⟨by decide, by decide⟩ ?_
        rintro _ _ ⟨rfl, rfl⟩
        show HM g D G q q3.2 82 [(1, vr 2 b1), (2, vr 6 b2), (3, vi b3), (4, vi b4), (5, vi b5)] [vi q3.1]
        exact h_iret C Rm E e_hx_Walk_drawn_82 (fin1 h)
      · have h := ifn c2 h
        refine h_blk 50 [(1, vr 2 b1), (2, vr 6 b2), (3, vi b3), (4, vi b4), (5, vi b5)] [vi b4, vr 6 b2, vr 2 b1, vi b3] C f_hx_Walk_drawn_45_4 rfl ?_
        obtain ⟨q5, e6, h⟩ := obd h
        refine h_callV C Rm Y [vr 6 b2, vi b4] [vi b3] (hx_Prog_lotWeight l D B H0 G _ b1 b2 b4 h_b1 h_b2 _ _ e6) cl_Walk_142 h_b1 rfl rfl rfl e_hx_Walk_drawn_50 rfl rfl rfl ⟨by decide, by decide⟩ ?_
        rintro _ _ ⟨rfl, rfl⟩
        show HM g D G q q5.2 53 [(1, vr 2 b1), (2, vr 6 b2), (3, vi b3), (4, vi b4), (5, vi b5)] [vi q5.1, vi b3]
        obtain ⟨c7, h⟩ := igd h
        obtain ⟨c8, h⟩ := igd h
        refine h_icmp_lt (tgt := 75) C e_hx_Walk_drawn_53 (by decide) c7 c8 (fun c9 => ?_) (fun c9 => ?_)
        · have h := ifp c9 h
          refine h_blk 79 [(1, vr 2 b1), (2, vr 6 b2), (3, vi b3), (4, vi b4), (5, vi b5)] [vi b4, vr 6 b2, vr 2 b1] C f_hx_Walk_drawn_75_3 rfl ?_
          obtain ⟨q10, e11, h⟩ := obd h
          refine h_callV C Rm Y [vr 6 b2, vi b4] [] (hx_Prog_lotValue l D B H0 G _ b1 b2 b4 h_b1 h_b2 _ _ e11) cl_Walk_131 h_b1 rfl rfl rfl e_hx_Walk_drawn_79 rfl rfl rfl ⟨by decide, by decide⟩ ?_
          rintro _ _ ⟨rfl, rfl⟩
          show HM g D G q q10.2 82 [(1, vr 2 b1), (2, vr 6 b2), (3, vi b3), (4, vi b4), (5, vi b5)] [vi q10.1]
          exact h_iret C Rm E e_hx_Walk_drawn_82 (fin1 h)
        · have h := ifn c9 h
          refine h_blk 61 [(1, vr 2 b1), (2, vr 6 b2), (3, vi b3), (4, vi b4), (5, vi b5)] [vi b4, vr 6 b2, vr 2 b1, vi b3] C f_hx_Walk_drawn_56_4 rfl ?_
          obtain ⟨q12, e13, h⟩ := obd h
          refine h_callV C Rm Y [vr 6 b2, vi b4] [vi b3] (hx_Prog_lotWeight l D B H0 G _ b1 b2 b4 h_b1 h_b2 _ _ e13) cl_Walk_142 h_b1 rfl rfl rfl e_hx_Walk_drawn_61 rfl rfl rfl ⟨by decide, by decide⟩ ?_
          rintro _ _ ⟨rfl, rfl⟩
          show HM g D G q q12.2 64 [(1, vr 2 b1), (2, vr 6 b2), (3, vi b3), (4, vi b4), (5, vi b5)] [vi q12.1, vi b3]
          refine h_blk 38 [(5, vi (b5 + 1)), (4, vi (b4 + 1)), (3, vi (b3 - q12.1)), (1, vr 2 b1), (2, vr 6 b2)] [] C f_hx_Walk_drawn_64_5 rfl ?_
          refine h_loc [(1, vr 2 b1), (2, vr 6 b2), (3, vi (b3 - q12.1)), (4, vi (b4 + 1)), (5, vi (b5 + 1))] ⟨rfl, rfl, rfl, rfl, rfl, trivial⟩ ?_
          exact ih q12.2 b1 b2 (b3 - q12.1) (b4 + 1) (b5 + 1) (h_b1) (h_b2) h
  show HM g D G q A 0 [(0, vr 7 o), (1, vr 2 a0), (2, vr 6 a1)] []
  unfold f_Walk_drawn at h
  refine h_blk 2 [(0, vr 7 o), (1, vr 2 a0), (2, vr 6 a1)] [vr 7 o, vr 7 o] C f_hx_Walk_drawn_0_2 rfl ?_
  refine h_geti C e_hx_Walk_drawn_2 fg_Walk_220 h_o rfl rfl rfl (A 7 o 3) rfl ?_
  refine h_ldc C 1103515245 e_hx_Walk_drawn_5 ld_Walk_242 (by decide) ?_
  refine h_blk 12 [(0, vr 7 o), (1, vr 2 a0), (2, vr 6 a1)] [vi (((A 7 o 3) * 1103515245) + 12345), vr 7 o] C f_hx_Walk_drawn_7_3 rfl ?_
  refine h_puti C e_hx_Walk_drawn_12 fp_Walk_220 h_o rfl rfl rfl ?_
  refine h_blk 16 [(0, vr 7 o), (1, vr 2 a0), (2, vr 6 a1)] [vr 7 o] C f_hx_Walk_drawn_15_1 rfl ?_
  refine h_geti C e_hx_Walk_drawn_16 fg_Walk_220 h_o rfl rfl rfl (((A 7 o 3) * 1103515245) + 12345) (mu_at A 7 o 3 (((A 7 o 3) * 1103515245) + 12345)) ?_
  refine h_blk 24 [(0, vr 7 o), (1, vr 2 a0), (2, vr 6 a1)] [vr 6 a1, vi 1, vi (iUsh (((A 7 o 3) * 1103515245) + 12345) 9)] C f_hx_Walk_drawn_19_4 rfl ?_
  refine h_geti C e_hx_Walk_drawn_24 fg_Walk_145 h_a1 rfl rfl rfl (A 6 a1 7) rfl ?_
  refine h_blk 38 [(5, vi 0), (4, vi 0), (3, vi (iAnd (iUsh (((A 7 o 3) * 1103515245) + 12345) 9) ((iShl 1 (A 6 a1 7)) - 1))), (0, vr 7 o), (1, vr 2 a0), (2, vr 6 a1)] [] C f_hx_Walk_drawn_27_9 rfl ?_
  refine h_loc [(1, vr 2 a0), (2, vr 6 a1), (3, vi (iAnd (iUsh (((A 7 o 3) * 1103515245) + 12345) 9) ((iShl 1 (A 6 a1 7)) - 1))), (4, vi 0), (5, vi 0)] ⟨rfl, rfl, rfl, rfl, rfl, trivial⟩ ?_
  exact hd_38 _ (mu A 7 o 3 (((A 7 o 3) * 1103515245) + 12345)) a0 a1 (iAnd (iUsh (((A 7 o 3) * 1103515245) + 12345) 9) ((iShl 1 (A 6 a1 7)) - 1)) 0 0 (h_a0) (h_a1) h

def f_Walk_followBlock_21 (fst : mA → Nat → Nat → Int → Int → Int → Option (Int × mA)) : Nat → mA → Nat → Nat → Int → Int → Int → Int → Int → Option (Int × mA)
  | 0, _, _, _, _, _, _, _, _ => none
  | n + 1, A, b0, b1, b3, b5, b6, b7, b8 => (if g32 b8 then (if 16 ≤ b8 then (some (b6, A)) else (if g32 b7 then if g32 b3 then (if b3 ≤ b7 then (some (b6, A)) else (if g32 b6 then (if b6 = (-1) then (some (b6, A)) else (Option.bind (fst A b0 b1 b7 b6 b5) (fun q8 => (Option.bind (f_Prog_behind q8.2 b1 b7) (fun q10 => (f_Walk_followBlock_21 fst n q10.2 b0 b1 b3 b5 q8.1 q10.1 (b8 + 1))))))) else none)) else none else none)) else none)
def f_Walk_followBlock (fst : mA → Nat → Nat → Int → Int → Int → Option (Int × mA)) (A : mA) (o : Nat) (a0 : Nat) (a1 : Int) (a2 : Int) (a3 : Int) (a4 : Int) : Option (Int × mA) := (if g32 a4 then (if 40 < a4 then (f_Walk_followBlock_21 fst 20 A o a0 a2 a4 (-1) a1 0) else (f_Walk_followBlock_21 fst 20 A o a0 a2 a4 a3 a1 0)) else none)
theorem f_hx_Walk_followBlock_0_2 : mblkB b_Walk_followBlock [(0, .iload 5, vi 0), (2, .bipush 40, vi 40)] = true := by decide +kernel
theorem e_hx_Walk_followBlock_4 : decode b_Walk_followBlock 4 = .ok (.if_icmp .gt 8, 3) := by decide +kernel
theorem f_hx_Walk_followBlock_12_6 : mblkB b_Walk_followBlock [(12, .iconst (-1), vi (-1)), (13, .istore 6, vi 0), (15, .iload_n 2, vi 0), (16, .istore 7, vi 0), (18, .iconst 0, vi 0), (19, .istore 8, vi 0)] = true := by decide +kernel
theorem f_hx_Walk_followBlock_7_2 : mblkB b_Walk_followBlock [(7, .iload 4, vi 0), (9, .goto 4, vi 13)] = true := by decide +kernel
theorem f_hx_Walk_followBlock_13_5 : mblkB b_Walk_followBlock [(13, .istore 6, vi 0), (15, .iload_n 2, vi 0), (16, .istore 7, vi 0), (18, .iconst 0, vi 0), (19, .istore 8, vi 0)] = true := by decide +kernel
theorem f_hx_Walk_followBlock_21_2 : mblkB b_Walk_followBlock [(21, .iload 8, vi 0), (23, .bipush 16, vi 16)] = true := by decide +kernel
theorem e_hx_Walk_followBlock_25 : decode b_Walk_followBlock 25 = .ok (.if_icmp .ge 42, 3) := by decide +kernel
theorem f_hx_Walk_followBlock_67_1 : mblkB b_Walk_followBlock [(67, .iload 6, vi 0)] = true := by decide +kernel
theorem e_hx_Walk_followBlock_69 : decode b_Walk_followBlock 69 = .ok (.ireturn, 1) := by decide +kernel
theorem f_hx_Walk_followBlock_28_2 : mblkB b_Walk_followBlock [(28, .iload 7, vi 0), (30, .iload_n 3, vi 0)] = true := by decide +kernel
theorem e_hx_Walk_followBlock_31 : decode b_Walk_followBlock 31 = .ok (.if_icmp .ge 36, 3) := by decide +kernel
theorem f_hx_Walk_followBlock_34_2 : mblkB b_Walk_followBlock [(34, .iload 6, vi 0), (36, .iconst (-1), vi (-1))] = true := by decide +kernel
theorem e_hx_Walk_followBlock_37 : decode b_Walk_followBlock 37 = .ok (.if_icmp .eq 30, 3) := by decide +kernel
theorem f_hx_Walk_followBlock_40_5 : mblkB b_Walk_followBlock [(40, .aload_n 0, vi 0), (41, .aload_n 1, vi 0), (42, .iload 7, vi 0), (44, .iload 6, vi 0), (46, .iload 5, vi 0)] = true := by decide +kernel
theorem e_hx_Walk_followBlock_48 : decode b_Walk_followBlock 48 = .ok (.invokevirtual 227, 3) := by decide +kernel
theorem f_hx_Walk_followBlock_51_3 : mblkB b_Walk_followBlock [(51, .istore 6, vi 0), (53, .aload_n 1, vi 0), (54, .iload 7, vi 0)] = true := by decide +kernel
theorem e_hx_Walk_followBlock_56 : decode b_Walk_followBlock 56 = .ok (.invokevirtual 81, 3) := by decide +kernel
theorem f_hx_Walk_followBlock_59_3 : mblkB b_Walk_followBlock [(59, .istore 7, vi 0), (61, .iinc 8 1, vi 1), (64, .goto (-43), vi 21)] = true := by decide +kernel
set_option maxHeartbeats 4000000 in
set_option maxRecDepth 20000 in
theorem hx_Walk_followBlock {fst : mA → Nat → Nat → Int → Int → Int → Option (Int × mA)} {fr lo : Nat} (hfst : ∀ (l : Launch) (D : va_G) (B : Nat) (H0 : Heap) (G : tG) (A : mA) (o : Nat) (a0 : Nat) (a1 : Int) (a2 : Int) (a3 : Int) (h_o : G o = some 7) (h_a0 : G a0 = some 2)  (r9 : Int) (A9 : mA), fst A o a0 a1 a2 a3 = some (r9, A9) → hMet l D B H0 G y_Walk_followStep b_Walk_followStep 6 (some .int) (fr + 30) (lo + 900) [vr 7 o, vr 2 a0, vi a1, vi a2, vi a3] A (fun v A' => v = some (vi r9) ∧ A' = A9)) : ∀ (l : Launch) (D : va_G) (B : Nat) (H0 : Heap) (G : tG) (A : mA) (o : Nat) (a0 : Nat) (a1 : Int) (a2 : Int) (a3 : Int) (a4 : Int) (h_o : G o = some 7) (h_a0 : G a0 = some 2)  (r9 : Int) (A9 : mA), f_Walk_followBlock fst A o a0 a1 a2 a3 a4 = some (r9, A9) → hMet l D B H0 G y_Walk_followBlock b_Walk_followBlock 9 (some .int) (fr + 32) (lo + 960) [vr 7 o, vr 2 a0, vi a1, vi a2, vi a3, vi a4] A (fun v A' => v = some (vi r9) ∧ A' = A9) := by
  intro l D B H0 G A o a0 a1 a2 a3 a4 h_o h_a0 r9 A9 h
  refine h_met (by decide) rfl (fun g q C Rm Y E => ?_)
  have hd_21 : ∀ (n : Nat) (A : mA) (b0 : Nat) (b1 : Nat) (b3 : Int) (b5 : Int) (b6 : Int) (b7 : Int) (b8 : Int) , G b0 = some 7 → G b1 = some 2 → f_Walk_followBlock_21 fst n A b0 b1 b3 b5 b6 b7 b8 = some (r9, A9) → HM g D G q A 21 [(0, vr 7 b0), (1, vr 2 b1), (3, vi b3), (5, vi b5), (6, vi b6), (7, vi b7), (8, vi b8)] [] := by
    intro n
    induction n with
    | zero => intro A b0 b1 b3 b5 b6 b7 b8 h_b0 h_b1 h; cases h
    | succ n ih =>
      intro A b0 b1 b3 b5 b6 b7 b8 h_b0 h_b1 h
      unfold f_Walk_followBlock_21 at h
      refine h_blk 25 [(0, vr 7 b0), (1, vr 2 b1), (3, vi b3), (5, vi b5), (6, vi b6), (7, vi b7), (8, vi b8)] [vi 16, vi b8] C f_hx_Walk_followBlock_21_2 rfl ?_
      obtain ⟨c1, h⟩ := igd h
      refine h_icmp_ge (tgt := 67) C e_hx_Walk_followBlock_25 (by decide) c1 (by decide) (fun c2 => ?_) (fun c2 => ?_)
      · have h := ifp c2 h
        refine h_blk 69 [(0, vr 7 b0), (1, vr 2 b1), (3, vi b3), (5, vi b5), (6, vi b6), (7, vi b7), (8, vi b8)] [vi b6] C f_hx_Walk_followBlock_67_1 rfl ?_
        exact h_iret C Rm E e_hx_Walk_followBlock_69 (fin1 h)
      · have h := ifn c2 h
        refine h_blk 31 [(0, vr 7 b0), (1, vr 2 b1), (3, vi b3), (5, vi b5), (6, vi b6), (7, vi b7), (8, vi b8)] [vi b3, vi b7] C f_hx_Walk_followBlock_28_2 rfl ?_
        obtain ⟨c3, h⟩ := igd h
        obtain ⟨c4, h⟩ := igd h
        refine h_icmp_ge (tgt := 67) C e_hx_Walk_followBlock_31 (by decide) c3 c4 (fun c5 => ?_) (fun c5 => ?_)
        · have h := ifp c5 h
          refine h_blk 69 [(0, vr 7 b0), (1, vr 2 b1), (3, vi b3), (5, vi b5), (6, vi b6), (7, vi b7), (8, vi b8)] [vi b6] C f_hx_Walk_followBlock_67_1 rfl ?_
          exact h_iret C Rm E e_hx_Walk_followBlock_69 (fin1 h)
        · have h := ifn c5 h
          refine h_blk 37 [(0, vr 7 b0), (1, vr 2 b1), (3, vi b3), (5, vi b5), (6, vi b6), (7, vi b7), (8, vi b8)] [vi (-1), vi b6] C f_hx_Walk_followBlock_34_2 rfl ?_
          obtain ⟨c6, h⟩ := igd h
          refine h_icmp_eq (tgt := 67) C e_hx_Walk_followBlock_37 (by decide) c6 (by decide) (fun c7 => ?_) (fun c7 => ?_)
          · have h := ifp c7 h
            refine h_blk 69 [(0, vr 7 b0), (1, vr 2 b1), (3, vi b3), (5, vi b5), (6, vi b6), (7, vi b7), (8, vi b8)] [vi b6] C f_hx_Walk_followBlock_67_1 rfl ?_
            exact h_iret C Rm E e_hx_Walk_followBlock_69 (fin1 h)
          · have h := ifn c7 h
            refine h_blk 48 [(0, vr 7 b0), (1, vr 2 b1), (3, vi b3), (5, vi b5), (6, vi b6), (7, vi b7), (8, vi b8)] [vi b5, vi b6, vi b7, vr 2 b1, vr 7 b0] C f_hx_Walk_followBlock_40_5 rfl ?_
            obtain ⟨q8, e9, h⟩ := obd h
            refine h_callV C Rm Y [vr 2 b1, vi b7, vi b6, vi b5] [] (hfst l D B H0 G _ b0 b1 b7 b6 b5 h_b0 h_b1 _ _ e9) cl_Walk_227 h_b0 rfl rfl rfl e_hx_Walk_followBlock_48 rfl rfl rfl ⟨by show _ ≤ ((fr + 32) : Nat); omega, by show _ ≤ ((lo + 960) : Nat); omega⟩ ?_
            rintro _ _ ⟨rfl, rfl⟩
            show HM g D G q q8.2 51 [(0, vr 7 b0), (1, vr 2 b1), (3, vi b3), (5, vi b5), (6, vi b6), (7, vi b7), (8, vi b8)] [vi q8.1]
            refine h_blk 56 [(6, vi q8.1), (0, vr 7 b0), (1, vr 2 b1), (3, vi b3), (5, vi b5), (7, vi b7), (8, vi b8)] [vi b7, vr 2 b1] C f_hx_Walk_followBlock_51_3 rfl ?_
            obtain ⟨q10, e11, h⟩ := obd h
            refine h_callV C Rm Y [vi b7] [] (hx_Prog_behind l D B H0 G _ b1 b7 h_b1 _ _ e11) cl_Walk_81 h_b1 rfl rfl rfl e_hx_Walk_followBlock_56 rfl rfl rfl ⟨by show _ ≤ ((fr + 32) : Nat); omega, by show _ ≤ ((lo + 960) : Nat); omega⟩ ?_
            rintro _ _ ⟨rfl, rfl⟩
            show HM g D G q q10.2 59 [(6, vi q8.1), (0, vr 7 b0), (1, vr 2 b1), (3, vi b3), (5, vi b5), (7, vi b7), (8, vi b8)] [vi q10.1]
            refine h_blk 21 [(8, vi (b8 + 1)), (7, vi q10.1), (6, vi q8.1), (0, vr 7 b0), (1, vr 2 b1), (3, vi b3), (5, vi b5)] [] C f_hx_Walk_followBlock_59_3 rfl ?_
            refine h_loc [(0, vr 7 b0), (1, vr 2 b1), (3, vi b3), (5, vi b5), (6, vi q8.1), (7, vi q10.1), (8, vi (b8 + 1))] ⟨rfl, rfl, rfl, rfl, rfl, rfl, rfl, trivial⟩ ?_
            exact ih q10.2 b0 b1 b3 b5 q8.1 q10.1 (b8 + 1) (h_b0) (h_b1) h
  show HM g D G q A 0 [(0, vr 7 o), (1, vr 2 a0), (2, vi a1), (3, vi a2), (4, vi a3), (5, vi a4)] []
  unfold f_Walk_followBlock at h
  refine h_blk 4 [(0, vr 7 o), (1, vr 2 a0), (2, vi a1), (3, vi a2), (4, vi a3), (5, vi a4)] [vi 40, vi a4] C f_hx_Walk_followBlock_0_2 rfl ?_
  obtain ⟨c12, h⟩ := igd h
  refine h_icmp_gt (tgt := 12) C e_hx_Walk_followBlock_4 (by decide) c12 (by decide) (fun c13 => ?_) (fun c13 => ?_)
  · have h := ifp c13 h
    refine h_blk 21 [(8, vi 0), (7, vi a1), (6, vi (-1)), (0, vr 7 o), (1, vr 2 a0), (2, vi a1), (3, vi a2), (4, vi a3), (5, vi a4)] [] C f_hx_Walk_followBlock_12_6 rfl ?_
    refine h_loc [(0, vr 7 o), (1, vr 2 a0), (3, vi a2), (5, vi a4), (6, vi (-1)), (7, vi a1), (8, vi 0)] ⟨rfl, rfl, rfl, rfl, rfl, rfl, rfl, trivial⟩ ?_
    exact hd_21 _ A o a0 a2 a4 (-1) a1 0 (h_o) (h_a0) h
  · have h := ifn c13 h
    refine h_blk 13 [(0, vr 7 o), (1, vr 2 a0), (2, vi a1), (3, vi a2), (4, vi a3), (5, vi a4)] [vi a3] C f_hx_Walk_followBlock_7_2 rfl ?_
    refine h_blk 21 [(8, vi 0), (7, vi a1), (6, vi a3), (0, vr 7 o), (1, vr 2 a0), (2, vi a1), (3, vi a2), (4, vi a3), (5, vi a4)] [] C f_hx_Walk_followBlock_13_5 rfl ?_
    refine h_loc [(0, vr 7 o), (1, vr 2 a0), (3, vi a2), (5, vi a4), (6, vi a3), (7, vi a1), (8, vi 0)] ⟨rfl, rfl, rfl, rfl, rfl, rfl, rfl, trivial⟩ ?_
    exact hd_21 _ A o a0 a2 a4 a3 a1 0 (h_o) (h_a0) h

def f_Walk_followLoop_16 (fst : mA → Nat → Nat → Int → Int → Int → Option (Int × mA)) : Nat → mA → Nat → Nat → Int → Int → Int → Int → Int → Option (Int × mA)
  | 0, _, _, _, _, _, _, _, _ => none
  | n + 1, A, b0, b1, b2, b4, b5, b6, b7 => (if g32 b7 then if g32 b6 then (if b6 ≤ b7 then (some (b5, A)) else (if g32 b5 then (if b5 = (-1) then (some (b5, A)) else (Option.bind (f_Prog_behind A b1 b2) (fun q6 => (Option.bind (f_Walk_followBlock fst q6.2 b0 b1 (b2 + 1) q6.1 b5 (b4 + 1)) (fun q8 => (f_Walk_followLoop_16 fst n q8.2 b0 b1 b2 b4 q8.1 b6 (b7 + 1))))))) else none)) else none else none)
def f_Walk_followLoop (fst : mA → Nat → Nat → Int → Int → Int → Option (Int × mA)) (A : mA) (o : Nat) (a0 : Nat) (a1 : Int) (a2 : Int) (a3 : Int) : Option (Int × mA) := (Option.bind (f_Prog_stepAt A a0 a1) (fun q10 => (f_Walk_followLoop_16 fst 20 q10.2 o a0 a1 a3 a2 (q10.2 6 q10.1.toNat 2) 0)))
theorem f_hx_Walk_followLoop_0_4 : mblkB b_Walk_followLoop [(0, .iload_n 3, vi 0), (1, .istore 5, vi 0), (3, .aload_n 1, vi 0), (4, .iload_n 2, vi 0)] = true := by decide +kernel
theorem e_hx_Walk_followLoop_5 : decode b_Walk_followLoop 5 = .ok (.invokevirtual 88, 3) := by decide +kernel
theorem e_hx_Walk_followLoop_8 : decode b_Walk_followLoop 8 = .ok (.getfield 121, 3) := by decide +kernel
theorem f_hx_Walk_followLoop_11_3 : mblkB b_Walk_followLoop [(11, .istore 6, vi 0), (13, .iconst 0, vi 0), (14, .istore 7, vi 0)] = true := by decide +kernel
theorem f_hx_Walk_followLoop_16_2 : mblkB b_Walk_followLoop [(16, .iload 7, vi 0), (18, .iload 6, vi 0)] = true := by decide +kernel
theorem e_hx_Walk_followLoop_20 : decode b_Walk_followLoop 20 = .ok (.if_icmp .ge 36, 3) := by decide +kernel
theorem f_hx_Walk_followLoop_56_1 : mblkB b_Walk_followLoop [(56, .iload 5, vi 0)] = true := by decide +kernel
theorem e_hx_Walk_followLoop_58 : decode b_Walk_followLoop 58 = .ok (.ireturn, 1) := by decide +kernel
theorem f_hx_Walk_followLoop_23_2 : mblkB b_Walk_followLoop [(23, .iload 5, vi 0), (25, .iconst (-1), vi (-1))] = true := by decide +kernel
theorem e_hx_Walk_followLoop_26 : decode b_Walk_followLoop 26 = .ok (.if_icmp .eq 30, 3) := by decide +kernel
theorem f_hx_Walk_followLoop_29_7 : mblkB b_Walk_followLoop [(29, .aload_n 0, vi 0), (30, .aload_n 1, vi 0), (31, .iload_n 2, vi 0), (32, .iconst 1, vi 1), (33, .iadd, vi 0), (34, .aload_n 1, vi 0), (35, .iload_n 2, vi 0)] = true := by decide +kernel
theorem e_hx_Walk_followLoop_36 : decode b_Walk_followLoop 36 = .ok (.invokevirtual 81, 3) := by decide +kernel
theorem f_hx_Walk_followLoop_39_4 : mblkB b_Walk_followLoop [(39, .iload 5, vi 0), (41, .iload 4, vi 0), (43, .iconst 1, vi 1), (44, .iadd, vi 0)] = true := by decide +kernel
theorem e_hx_Walk_followLoop_45 : decode b_Walk_followLoop 45 = .ok (.invokevirtual 223, 3) := by decide +kernel
theorem f_hx_Walk_followLoop_48_3 : mblkB b_Walk_followLoop [(48, .istore 5, vi 0), (50, .iinc 7 1, vi 1), (53, .goto (-37), vi 16)] = true := by decide +kernel
set_option maxHeartbeats 4000000 in
set_option maxRecDepth 20000 in
theorem hx_Walk_followLoop {fst : mA → Nat → Nat → Int → Int → Int → Option (Int × mA)} {fr lo : Nat} (hfst : ∀ (l : Launch) (D : va_G) (B : Nat) (H0 : Heap) (G : tG) (A : mA) (o : Nat) (a0 : Nat) (a1 : Int) (a2 : Int) (a3 : Int) (h_o : G o = some 7) (h_a0 : G a0 = some 2)  (r9 : Int) (A9 : mA), fst A o a0 a1 a2 a3 = some (r9, A9) → hMet l D B H0 G y_Walk_followStep b_Walk_followStep 6 (some .int) (fr + 30) (lo + 900) [vr 7 o, vr 2 a0, vi a1, vi a2, vi a3] A (fun v A' => v = some (vi r9) ∧ A' = A9)) : ∀ (l : Launch) (D : va_G) (B : Nat) (H0 : Heap) (G : tG) (A : mA) (o : Nat) (a0 : Nat) (a1 : Int) (a2 : Int) (a3 : Int) (h_o : G o = some 7) (h_a0 : G a0 = some 2)  (r9 : Int) (A9 : mA), f_Walk_followLoop fst A o a0 a1 a2 a3 = some (r9, A9) → hMet l D B H0 G y_Walk_followLoop b_Walk_followLoop 8 (some .int) (fr + 34) (lo + 1020) [vr 7 o, vr 2 a0, vi a1, vi a2, vi a3] A (fun v A' => v = some (vi r9) ∧ A' = A9) := by
  intro l D B H0 G A o a0 a1 a2 a3 h_o h_a0 r9 A9 h
  refine h_met (by decide) rfl (fun g q C Rm Y E => ?_)
  have hd_16 : ∀ (n : Nat) (A : mA) (b0 : Nat) (b1 : Nat) (b2 : Int) (b4 : Int) (b5 : Int) (b6 : Int) (b7 : Int) , G b0 = some 7 → G b1 = some 2 → f_Walk_followLoop_16 fst n A b0 b1 b2 b4 b5 b6 b7 = some (r9, A9) → HM g D G q A 16 [(0, vr 7 b0), (1, vr 2 b1), (2, vi b2), (4, vi b4), (5, vi b5), (6, vi b6), (7, vi b7)] [] := by
    intro n
    induction n with
    | zero => intro A b0 b1 b2 b4 b5 b6 b7 h_b0 h_b1 h; cases h
    | succ n ih =>
      intro A b0 b1 b2 b4 b5 b6 b7 h_b0 h_b1 h
      unfold f_Walk_followLoop_16 at h
      refine h_blk 20 [(0, vr 7 b0), (1, vr 2 b1), (2, vi b2), (4, vi b4), (5, vi b5), (6, vi b6), (7, vi b7)] [vi b6, vi b7] C f_hx_Walk_followLoop_16_2 rfl ?_
      obtain ⟨c1, h⟩ := igd h
      obtain ⟨c2, h⟩ := igd h
      refine h_icmp_ge (tgt := 56) C e_hx_Walk_followLoop_20 (by decide) c1 c2 (fun c3 => ?_) (fun c3 => ?_)
      · have h := ifp c3 h
        refine h_blk 58 [(0, vr 7 b0), (1, vr 2 b1), (2, vi b2), (4, vi b4), (5, vi b5), (6, vi b6), (7, vi b7)] [vi b5] C f_hx_Walk_followLoop_56_1 rfl ?_
        exact h_iret C Rm E e_hx_Walk_followLoop_58 (fin1 h)
      · have h := ifn c3 h
        refine h_blk 26 [(0, vr 7 b0), (1, vr 2 b1), (2, vi b2), (4, vi b4), (5, vi b5), (6, vi b6), (7, vi b7)] [vi (-1), vi b5] C f_hx_Walk_followLoop_23_2 rfl ?_
        obtain ⟨c4, h⟩ := igd h
        refine h_icmp_eq (tgt := 56) C e_hx_Walk_followLoop_26 (by decide) c4 (by decide) (fun c5 => ?_) (fun c5 => ?_)
        · have h := ifp c5 h
          refine h_blk 58 [(0, vr 7 b0), (1, vr 2 b1), (2, vi b2), (4, vi b4), (5, vi b5), (6, vi b6), (7, vi b7)] [vi b5] C f_hx_Walk_followLoop_56_1 rfl ?_
          exact h_iret C Rm E e_hx_Walk_followLoop_58 (fin1 h)
        · have h := ifn c5 h
          refine h_blk 36 [(0, vr 7 b0), (1, vr 2 b1), (2, vi b2), (4, vi b4), (5, vi b5), (6, vi b6), (7, vi b7)] [vi b2, vr 2 b1, vi (b2 + 1), vr 2 b1, vr 7 b0] C f_hx_Walk_followLoop_29_7 rfl ?_
          obtain ⟨q6, e7, h⟩ := obd h
          refine h_callV C Rm Y [vi b2] [vi (b2 + 1), vr 2 b1, vr 7 b0] (hx_Prog_behind l D B H0 G _ b1 b2 h_b1 _ _ e7) cl_Walk_81 h_b1 rfl rfl rfl e_hx_Walk_followLoop_36 rfl rfl rfl ⟨by show _ ≤ ((fr + 34) : Nat); omega, by show _ ≤ ((lo + 1020) : Nat); omega⟩ ?_
          rintro _ _ ⟨rfl, rfl⟩
          show HM g D G q q6.2 39 [(0, vr 7 b0), (1, vr 2 b1), (2, vi b2), (4, vi b4), (5, vi b5), (6, vi b6), (7, vi b7)] [vi q6.1, vi (b2 + 1), vr 2 b1, vr 7 b0]
          refine h_blk 45 [(0, vr 7 b0), (1, vr 2 b1), (2, vi b2), (4, vi b4), (5, vi b5), (6, vi b6), (7, vi b7)] [vi (b4 + 1), vi b5, vi q6.1, vi (b2 + 1), vr 2 b1, vr 7 b0] C f_hx_Walk_followLoop_39_4 rfl ?_
          obtain ⟨q8, e9, h⟩ := obd h
          refine h_callV C Rm Y [vr 2 b1, vi (b2 + 1), vi q6.1, vi b5, vi (b4 + 1)] [] (hx_Walk_followBlock hfst l D B H0 G _ b0 b1 (b2 + 1) q6.1 b5 (b4 + 1) h_b0 h_b1 _ _ e9) cl_Walk_223 h_b0 rfl rfl rfl e_hx_Walk_followLoop_45 rfl rfl rfl ⟨by show _ ≤ ((fr + 34) : Nat); omega, by show _ ≤ ((lo + 1020) : Nat); omega⟩ ?_
          rintro _ _ ⟨rfl, rfl⟩
          show HM g D G q q8.2 48 [(0, vr 7 b0), (1, vr 2 b1), (2, vi b2), (4, vi b4), (5, vi b5), (6, vi b6), (7, vi b7)] [vi q8.1]
          refine h_blk 16 [(7, vi (b7 + 1)), (5, vi q8.1), (0, vr 7 b0), (1, vr 2 b1), (2, vi b2), (4, vi b4), (6, vi b6)] [] C f_hx_Walk_followLoop_48_3 rfl ?_
          refine h_loc [(0, vr 7 b0), (1, vr 2 b1), (2, vi b2), (4, vi b4), (5, vi q8.1), (6, vi b6), (7, vi (b7 + 1))] ⟨rfl, rfl, rfl, rfl, rfl, rfl, rfl, trivial⟩ ?_
          exact ih q8.2 b0 b1 b2 b4 q8.1 b6 (b7 + 1) (h_b0) (h_b1) h
  show HM g D G q A 0 [(0, vr 7 o), (1, vr 2 a0), (2, vi a1), (3, vi a2), (4, vi a3)] []
  unfold f_Walk_followLoop at h
  refine h_blk 5 [(5, vi a2), (0, vr 7 o), (1, vr 2 a0), (2, vi a1), (3, vi a2), (4, vi a3)] [vi a1, vr 2 a0] C f_hx_Walk_followLoop_0_4 rfl ?_
  obtain ⟨q10, e11, h⟩ := obd h
  refine h_callV C Rm Y [vi a1] [] (hx_Prog_stepAt l D B H0 G _ a0 a1 h_a0 _ _ e11) cl_Walk_88 h_a0 rfl rfl rfl e_hx_Walk_followLoop_5 rfl rfl rfl ⟨by show _ ≤ ((fr + 34) : Nat); omega, by show _ ≤ ((lo + 1020) : Nat); omega⟩ ?_
  rintro _ _ ⟨rfl, rfl, g12⟩
  show HM g D G q q10.2 8 [(5, vi a2), (0, vr 7 o), (1, vr 2 a0), (2, vi a1), (3, vi a2), (4, vi a3)] [vr 6 q10.1.toNat]
  refine h_geti C e_hx_Walk_followLoop_8 fg_Walk_121 g12 rfl rfl rfl (q10.2 6 q10.1.toNat 2) rfl ?_
  refine h_blk 16 [(7, vi 0), (6, vi (q10.2 6 q10.1.toNat 2)), (5, vi a2), (0, vr 7 o), (1, vr 2 a0), (2, vi a1), (3, vi a2), (4, vi a3)] [] C f_hx_Walk_followLoop_11_3 rfl ?_
  refine h_loc [(0, vr 7 o), (1, vr 2 a0), (2, vi a1), (4, vi a3), (5, vi a2), (6, vi (q10.2 6 q10.1.toNat 2)), (7, vi 0)] ⟨rfl, rfl, rfl, rfl, rfl, rfl, rfl, trivial⟩ ?_
  exact hd_16 _ q10.2 o a0 a1 a3 a2 (q10.2 6 q10.1.toNat 2) 0 (h_o) (h_a0) h

def f_Walk_followRun (fst : mA → Nat → Nat → Int → Int → Int → Option (Int × mA)) (A : mA) (o : Nat) (a0 : Nat) (a1 : Nat) (a2 : Int) (a3 : Int) : Option (Int × mA) := (if 0 ≤ (A 6 a1 13) then (Option.bind (f_Prog_digitOf A a0 a1 a2) (fun q3 => (Option.bind (f_CS_withDigit q3.2 0 0 q3.1) (fun q5 => (Option.bind (f_Walk_followBlock fst q5.2 o ((A 6 a1 13).toNat) 0 (q5.2 2 ((A 6 a1 13).toNat) 1) q5.1 (a3 + 1)) (fun q7 => (if g32 q7.1 then (if q7.1 = (-1) then (some ((-1), q7.2)) else (Option.bind (f_CS_digitAt q7.2 q7.1 0) (fun q11 => (Option.bind (f_CS_withDigit q11.2 a2 (q7.2 6 a1 1) q11.1) (fun q13 => (some (q13.1, q13.2))))))) else none))))))) else none)
theorem f_hx_Walk_followRun_0_1 : mblkB b_Walk_followRun [(0, .aload_n 2, vi 0)] = true := by decide +kernel
theorem e_hx_Walk_followRun_1 : decode b_Walk_followRun 1 = .ok (.getfield 186, 3) := by decide +kernel
theorem f_hx_Walk_followRun_4_2 : mblkB b_Walk_followRun [(4, .astore 5, vi 0), (6, .aload 5, vi 0)] = true := by decide +kernel
theorem e_hx_Walk_followRun_8 : decode b_Walk_followRun 8 = .ok (.ifnonnull 5, 3) := by decide +kernel
theorem f_hx_Walk_followRun_13_5 : mblkB b_Walk_followRun [(13, .iconst 0, vi 0), (14, .iconst 0, vi 0), (15, .aload_n 1, vi 0), (16, .aload_n 2, vi 0), (17, .iload_n 3, vi 0)] = true := by decide +kernel
theorem e_hx_Walk_followRun_18 : decode b_Walk_followRun 18 = .ok (.invokevirtual 156, 3) := by decide +kernel
theorem e_hx_Walk_followRun_21 : decode b_Walk_followRun 21 = .ok (.invokestatic 135, 3) := by decide +kernel
theorem f_hx_Walk_followRun_24_5 : mblkB b_Walk_followRun [(24, .istore 6, vi 0), (26, .aload_n 0, vi 0), (27, .aload 5, vi 0), (29, .iconst 0, vi 0), (30, .aload 5, vi 0)] = true := by decide +kernel
theorem e_hx_Walk_followRun_32 : decode b_Walk_followRun 32 = .ok (.getfield 39, 3) := by decide +kernel
theorem f_hx_Walk_followRun_35_4 : mblkB b_Walk_followRun [(35, .iload 6, vi 0), (37, .iload 4, vi 0), (39, .iconst 1, vi 1), (40, .iadd, vi 0)] = true := by decide +kernel
theorem e_hx_Walk_followRun_41 : decode b_Walk_followRun 41 = .ok (.invokevirtual 223, 3) := by decide +kernel
theorem f_hx_Walk_followRun_44_3 : mblkB b_Walk_followRun [(44, .istore 7, vi 0), (46, .iload 7, vi 0), (48, .iconst (-1), vi (-1))] = true := by decide +kernel
theorem e_hx_Walk_followRun_49 : decode b_Walk_followRun 49 = .ok (.if_icmp .ne 7, 3) := by decide +kernel
theorem f_hx_Walk_followRun_56_2 : mblkB b_Walk_followRun [(56, .iload_n 3, vi 0), (57, .aload_n 2, vi 0)] = true := by decide +kernel
theorem e_hx_Walk_followRun_58 : decode b_Walk_followRun 58 = .ok (.getfield 128, 3) := by decide +kernel
theorem f_hx_Walk_followRun_61_2 : mblkB b_Walk_followRun [(61, .iload 7, vi 0), (63, .iconst 0, vi 0)] = true := by decide +kernel
theorem e_hx_Walk_followRun_64 : decode b_Walk_followRun 64 = .ok (.invokestatic 243, 3) := by decide +kernel
theorem e_hx_Walk_followRun_67 : decode b_Walk_followRun 67 = .ok (.invokestatic 135, 3) := by decide +kernel
theorem e_hx_Walk_followRun_70 : decode b_Walk_followRun 70 = .ok (.ireturn, 1) := by decide +kernel
theorem f_hx_Walk_followRun_52_2 : mblkB b_Walk_followRun [(52, .iconst (-1), vi (-1)), (53, .goto 17, vi 70)] = true := by decide +kernel
set_option maxHeartbeats 4000000 in
set_option maxRecDepth 20000 in
theorem hx_Walk_followRun {fst : mA → Nat → Nat → Int → Int → Int → Option (Int × mA)} {fr lo : Nat} (hfst : ∀ (l : Launch) (D : va_G) (B : Nat) (H0 : Heap) (G : tG) (A : mA) (o : Nat) (a0 : Nat) (a1 : Int) (a2 : Int) (a3 : Int) (h_o : G o = some 7) (h_a0 : G a0 = some 2)  (r9 : Int) (A9 : mA), fst A o a0 a1 a2 a3 = some (r9, A9) → hMet l D B H0 G y_Walk_followStep b_Walk_followStep 6 (some .int) (fr + 30) (lo + 900) [vr 7 o, vr 2 a0, vi a1, vi a2, vi a3] A (fun v A' => v = some (vi r9) ∧ A' = A9)) : ∀ (l : Launch) (D : va_G) (B : Nat) (H0 : Heap) (G : tG) (A : mA) (o : Nat) (a0 : Nat) (a1 : Nat) (a2 : Int) (a3 : Int) (h_o : G o = some 7) (h_a0 : G a0 = some 2) (h_a1 : G a1 = some 6)  (r9 : Int) (A9 : mA), f_Walk_followRun fst A o a0 a1 a2 a3 = some (r9, A9) → hMet l D B H0 G y_Walk_followRun b_Walk_followRun 8 (some .int) (fr + 34) (lo + 1020) [vr 7 o, vr 2 a0, vr 6 a1, vi a2, vi a3] A (fun v A' => v = some (vi r9) ∧ A' = A9) := by
  intro l D B H0 G A o a0 a1 a2 a3 h_o h_a0 h_a1 r9 A9 h
  refine h_met (by decide) rfl (fun g q C Rm Y E => ?_)
  show HM g D G q A 0 [(0, vr 7 o), (1, vr 2 a0), (2, vr 6 a1), (3, vi a2), (4, vi a3)] []
  unfold f_Walk_followRun at h
  refine h_blk 1 [(0, vr 7 o), (1, vr 2 a0), (2, vr 6 a1), (3, vi a2), (4, vi a3)] [vr 6 a1] C f_hx_Walk_followRun_0_1 rfl ?_
  obtain ⟨c1, h⟩ := igd h
  refine h_getr5 C e_hx_Walk_followRun_1 fg_Walk_186 h_a1 rfl rfl rfl rfl c1 (fun g2 => ?_)
  refine h_blk 8 [(5, vr 2 ((A 6 a1 13).toNat)), (0, vr 7 o), (1, vr 2 a0), (2, vr 6 a1), (3, vi a2), (4, vi a3)] [vr 2 ((A 6 a1 13).toNat)] C f_hx_Walk_followRun_4_2 rfl ?_
  refine h_ifnonnull (tgt := 13) C e_hx_Walk_followRun_8 (by decide) ?_
  refine h_blk 18 [(5, vr 2 ((A 6 a1 13).toNat)), (0, vr 7 o), (1, vr 2 a0), (2, vr 6 a1), (3, vi a2), (4, vi a3)] [vi a2, vr 6 a1, vr 2 a0, vi 0, vi 0] C f_hx_Walk_followRun_13_5 rfl ?_
  obtain ⟨q3, e4, h⟩ := obd h
  refine h_callV C Rm Y [vr 6 a1, vi a2] [vi 0, vi 0] (hx_Prog_digitOf l D B H0 G _ a0 a1 a2 h_a0 h_a1 _ _ e4) cl_Walk_156 h_a0 rfl rfl rfl e_hx_Walk_followRun_18 rfl rfl rfl ⟨by show _ ≤ ((fr + 34) : Nat); omega, by show _ ≤ ((lo + 1020) : Nat); omega⟩ ?_
  rintro _ _ ⟨rfl, rfl⟩
  show HM g D G q q3.2 21 [(5, vr 2 ((A 6 a1 13).toNat)), (0, vr 7 o), (1, vr 2 a0), (2, vr 6 a1), (3, vi a2), (4, vi a3)] [vi q3.1, vi 0, vi 0]
  obtain ⟨q5, e6, h⟩ := obd h
  refine h_callSn C Rm Y [vi 0, vi 0, vi q3.1] [] (hx_CS_withDigit l D B H0 G _ 0 0 q3.1 _ _ e6) cl_Walk_135 e_hx_Walk_followRun_21 rfl rfl rfl ⟨by show _ ≤ ((fr + 34) : Nat); omega, by show _ ≤ ((lo + 1020) : Nat); omega⟩ ?_
  rintro _ _ ⟨rfl, rfl⟩
  show HM g D G q q5.2 24 [(5, vr 2 ((A 6 a1 13).toNat)), (0, vr 7 o), (1, vr 2 a0), (2, vr 6 a1), (3, vi a2), (4, vi a3)] [vi q5.1]
  refine h_blk 32 [(6, vi q5.1), (5, vr 2 ((A 6 a1 13).toNat)), (0, vr 7 o), (1, vr 2 a0), (2, vr 6 a1), (3, vi a2), (4, vi a3)] [vr 2 ((A 6 a1 13).toNat), vi 0, vr 2 ((A 6 a1 13).toNat), vr 7 o] C f_hx_Walk_followRun_24_5 rfl ?_
  refine h_geti C e_hx_Walk_followRun_32 fg_Walk_39 g2 rfl rfl rfl (q5.2 2 ((A 6 a1 13).toNat) 1) rfl ?_
  refine h_blk 41 [(6, vi q5.1), (5, vr 2 ((A 6 a1 13).toNat)), (0, vr 7 o), (1, vr 2 a0), (2, vr 6 a1), (3, vi a2), (4, vi a3)] [vi (a3 + 1), vi q5.1, vi (q5.2 2 ((A 6 a1 13).toNat) 1), vi 0, vr 2 ((A 6 a1 13).toNat), vr 7 o] C f_hx_Walk_followRun_35_4 rfl ?_
  obtain ⟨q7, e8, h⟩ := obd h
  refine h_callV C Rm Y [vr 2 ((A 6 a1 13).toNat), vi 0, vi (q5.2 2 ((A 6 a1 13).toNat) 1), vi q5.1, vi (a3 + 1)] [] (hx_Walk_followBlock hfst l D B H0 G _ o ((A 6 a1 13).toNat) 0 (q5.2 2 ((A 6 a1 13).toNat) 1) q5.1 (a3 + 1) h_o g2 _ _ e8) cl_Walk_223 h_o rfl rfl rfl e_hx_Walk_followRun_41 rfl rfl rfl ⟨by show _ ≤ ((fr + 34) : Nat); omega, by show _ ≤ ((lo + 1020) : Nat); omega⟩ ?_
  rintro _ _ ⟨rfl, rfl⟩
  show HM g D G q q7.2 44 [(6, vi q5.1), (5, vr 2 ((A 6 a1 13).toNat)), (0, vr 7 o), (1, vr 2 a0), (2, vr 6 a1), (3, vi a2), (4, vi a3)] [vi q7.1]
  refine h_blk 49 [(7, vi q7.1), (6, vi q5.1), (5, vr 2 ((A 6 a1 13).toNat)), (0, vr 7 o), (1, vr 2 a0), (2, vr 6 a1), (3, vi a2), (4, vi a3)] [vi (-1), vi q7.1] C f_hx_Walk_followRun_44_3 rfl ?_
  obtain ⟨c9, h⟩ := igd h
  refine h_icmp_ne (tgt := 56) C e_hx_Walk_followRun_49 (by decide) c9 (by decide) (fun c10 => ?_) (fun c10 => ?_)
  · have h := ifn c10 h
    refine h_blk 58 [(7, vi q7.1), (6, vi q5.1), (5, vr 2 ((A 6 a1 13).toNat)), (0, vr 7 o), (1, vr 2 a0), (2, vr 6 a1), (3, vi a2), (4, vi a3)] [vr 6 a1, vi a2] C f_hx_Walk_followRun_56_2 rfl ?_
    refine h_geti C e_hx_Walk_followRun_58 fg_Walk_128 h_a1 rfl rfl rfl (q7.2 6 a1 1) rfl ?_
    refine h_blk 64 [(7, vi q7.1), (6, vi q5.1), (5, vr 2 ((A 6 a1 13).toNat)), (0, vr 7 o), (1, vr 2 a0), (2, vr 6 a1), (3, vi a2), (4, vi a3)] [vi 0, vi q7.1, vi (q7.2 6 a1 1), vi a2] C f_hx_Walk_followRun_61_2 rfl ?_
    obtain ⟨q11, e12, h⟩ := obd h
    refine h_callSn C Rm Y [vi q7.1, vi 0] [vi (q7.2 6 a1 1), vi a2] (hx_CS_digitAt l D B H0 G _ q7.1 0 _ _ e12) cl_Walk_243 e_hx_Walk_followRun_64 rfl rfl rfl ⟨by show _ ≤ ((fr + 34) : Nat); omega, by show _ ≤ ((lo + 1020) : Nat); omega⟩ ?_
    rintro _ _ ⟨rfl, rfl⟩
    show HM g D G q q11.2 67 [(7, vi q7.1), (6, vi q5.1), (5, vr 2 ((A 6 a1 13).toNat)), (0, vr 7 o), (1, vr 2 a0), (2, vr 6 a1), (3, vi a2), (4, vi a3)] [vi q11.1, vi (q7.2 6 a1 1), vi a2]
    obtain ⟨q13, e14, h⟩ := obd h
    refine h_callSn C Rm Y [vi a2, vi (q7.2 6 a1 1), vi q11.1] [] (hx_CS_withDigit l D B H0 G _ a2 (q7.2 6 a1 1) q11.1 _ _ e14) cl_Walk_135 e_hx_Walk_followRun_67 rfl rfl rfl ⟨by show _ ≤ ((fr + 34) : Nat); omega, by show _ ≤ ((lo + 1020) : Nat); omega⟩ ?_
    rintro _ _ ⟨rfl, rfl⟩
    show HM g D G q q13.2 70 [(7, vi q7.1), (6, vi q5.1), (5, vr 2 ((A 6 a1 13).toNat)), (0, vr 7 o), (1, vr 2 a0), (2, vr 6 a1), (3, vi a2), (4, vi a3)] [vi q13.1]
    exact h_iret C Rm E e_hx_Walk_followRun_70 (fin1 h)
  · have h := ifp c10 h
    refine h_blk 70 [(7, vi q7.1), (6, vi q5.1), (5, vr 2 ((A 6 a1 13).toNat)), (0, vr 7 o), (1, vr 2 a0), (2, vr 6 a1), (3, vi a2), (4, vi a3)] [vi (-1)] C f_hx_Walk_followRun_52_2 rfl ?_
    exact h_iret C Rm E e_hx_Walk_followRun_70 (fin1 h)

def f_Walk_followStep (fst : mA → Nat → Nat → Int → Int → Int → Option (Int × mA)) (A : mA) (o : Nat) (a0 : Nat) (a1 : Int) (a2 : Int) (a3 : Int) : Option (Int × mA) := (Option.bind (f_Prog_stepAt A a0 a1) (fun q1 => (if g32 (q1.2 6 q1.1.toNat 0) then (if (q1.2 6 q1.1.toNat 0) = 0 then (Option.bind (f_Walk_drawn q1.2 o a0 q1.1.toNat) (fun q6 => (Option.bind (f_CS_withDigit q6.2 a2 (q1.2 6 q1.1.toNat 1) q6.1) (fun q8 => (some (q8.1, q8.2)))))) else if (q1.2 6 q1.1.toNat 0) = 1 then (Option.bind (f_Prog_digitOf q1.2 a0 q1.1.toNat a2) (fun q11 => (Option.bind (f_CS_withDigit q11.2 a2 (q1.2 6 q1.1.toNat 1) q11.1) (fun q13 => (some (q13.1, q13.2)))))) else if (q1.2 6 q1.1.toNat 0) = 2 then (Option.bind (f_Prog_valueOf q1.2 a0 q1.1.toNat a2) (fun q16 => (if g32 q16.1 then (if q16.1 = 0 then (some ((-1), q16.2)) else (some (a2, q16.2))) else none))) else if (q1.2 6 q1.1.toNat 0) = 3 then (Option.bind (f_Prog_valueOf q1.2 a0 q1.1.toNat a2) (fun q21 => (if g32 q21.1 then (if q21.1 = 0 then (Option.bind (f_Prog_behind q21.2 a0 a1) (fun q25 => (Option.bind (f_Walk_followBlock fst q25.2 o a0 (q21.2 6 q1.1.toNat 5) q25.1 a2 (a3 + 1)) (fun q27 => (some (q27.1, q27.2)))))) else (Option.bind (f_Walk_followBlock fst q21.2 o a0 (a1 + 1) (q21.2 6 q1.1.toNat 5) a2 (a3 + 1)) (fun q29 => (some (q29.1, q29.2))))) else none))) else if (q1.2 6 q1.1.toNat 0) = 4 then (Option.bind (f_Walk_followLoop fst q1.2 o a0 a1 a2 a3) (fun q32 => (some (q32.1, q32.2)))) else (Option.bind (f_Walk_followRun fst q1.2 o a0 q1.1.toNat a2 a3) (fun q34 => (some (q34.1, q34.2))))) else none)))
theorem f_hx_Walk_followStep_0_2 : mblkB b_Walk_followStep [(0, .aload_n 1, vi 0), (1, .iload_n 2, vi 0)] = true := by decide +kernel
theorem e_hx_Walk_followStep_2 : decode b_Walk_followStep 2 = .ok (.invokevirtual 88, 3) := by decide +kernel
theorem f_hx_Walk_followStep_5_2 : mblkB b_Walk_followStep [(5, .astore 5, vi 0), (7, .aload 5, vi 0)] = true := by decide +kernel
theorem e_hx_Walk_followStep_9 : decode b_Walk_followStep 9 = .ok (.getfield 92, 3) := by decide +kernel
theorem e_hx_Walk_followStep_12 : decode b_Walk_followStep 12 = .ok (.tableswitch 148 0 4 #[36, 53, 70, 86, 138], 36) := by decide +kernel
theorem f_hx_Walk_followStep_48_2 : mblkB b_Walk_followStep [(48, .iload_n 3, vi 0), (49, .aload 5, vi 0)] = true := by decide +kernel
theorem e_hx_Walk_followStep_51 : decode b_Walk_followStep 51 = .ok (.getfield 128, 3) := by decide +kernel
theorem f_hx_Walk_followStep_54_3 : mblkB b_Walk_followStep [(54, .aload_n 0, vi 0), (55, .aload_n 1, vi 0), (56, .aload 5, vi 0)] = true := by decide +kernel
theorem e_hx_Walk_followStep_58 : decode b_Walk_followStep 58 = .ok (.invokevirtual 231, 3) := by decide +kernel
theorem e_hx_Walk_followStep_61 : decode b_Walk_followStep 61 = .ok (.invokestatic 135, 3) := by decide +kernel
theorem e_hx_Walk_followStep_64 : decode b_Walk_followStep 64 = .ok (.ireturn, 1) := by decide +kernel
theorem f_hx_Walk_followStep_65_2 : mblkB b_Walk_followStep [(65, .iload_n 3, vi 0), (66, .aload 5, vi 0)] = true := by decide +kernel
theorem e_hx_Walk_followStep_68 : decode b_Walk_followStep 68 = .ok (.getfield 128, 3) := by decide +kernel
theorem f_hx_Walk_followStep_71_3 : mblkB b_Walk_followStep [(71, .aload_n 1, vi 0), (72, .aload 5, vi 0), (74, .iload_n 3, vi 0)] = true := by decide +kernel
theorem e_hx_Walk_followStep_75 : decode b_Walk_followStep 75 = .ok (.invokevirtual 156, 3) := by decide +kernel
theorem e_hx_Walk_followStep_78 : decode b_Walk_followStep 78 = .ok (.invokestatic 135, 3) := by decide +kernel
theorem e_hx_Walk_followStep_81 : decode b_Walk_followStep 81 = .ok (.ireturn, 1) := by decide +kernel
theorem f_hx_Walk_followStep_82_3 : mblkB b_Walk_followStep [(82, .aload_n 1, vi 0), (83, .aload 5, vi 0), (85, .iload_n 3, vi 0)] = true := by decide +kernel
theorem e_hx_Walk_followStep_86 : decode b_Walk_followStep 86 = .ok (.invokevirtual 159, 3) := by decide +kernel
theorem e_hx_Walk_followStep_89 : decode b_Walk_followStep 89 = .ok (.ifCond .eq 7, 3) := by decide +kernel
theorem f_hx_Walk_followStep_96_1 : mblkB b_Walk_followStep [(96, .iconst (-1), vi (-1))] = true := by decide +kernel
theorem e_hx_Walk_followStep_97 : decode b_Walk_followStep 97 = .ok (.ireturn, 1) := by decide +kernel
theorem f_hx_Walk_followStep_92_2 : mblkB b_Walk_followStep [(92, .iload_n 3, vi 0), (93, .goto 4, vi 97)] = true := by decide +kernel
theorem f_hx_Walk_followStep_98_3 : mblkB b_Walk_followStep [(98, .aload_n 1, vi 0), (99, .aload 5, vi 0), (101, .iload_n 3, vi 0)] = true := by decide +kernel
theorem e_hx_Walk_followStep_102 : decode b_Walk_followStep 102 = .ok (.invokevirtual 159, 3) := by decide +kernel
theorem e_hx_Walk_followStep_105 : decode b_Walk_followStep 105 = .ok (.ifCond .eq 24, 3) := by decide +kernel
theorem f_hx_Walk_followStep_129_3 : mblkB b_Walk_followStep [(129, .aload_n 0, vi 0), (130, .aload_n 1, vi 0), (131, .aload 5, vi 0)] = true := by decide +kernel
theorem e_hx_Walk_followStep_133 : decode b_Walk_followStep 133 = .ok (.getfield 166, 3) := by decide +kernel
theorem f_hx_Walk_followStep_136_2 : mblkB b_Walk_followStep [(136, .aload_n 1, vi 0), (137, .iload_n 2, vi 0)] = true := by decide +kernel
theorem e_hx_Walk_followStep_138 : decode b_Walk_followStep 138 = .ok (.invokevirtual 81, 3) := by decide +kernel
theorem f_hx_Walk_followStep_141_4 : mblkB b_Walk_followStep [(141, .iload_n 3, vi 0), (142, .iload 4, vi 0), (144, .iconst 1, vi 1), (145, .iadd, vi 0)] = true := by decide +kernel
theorem e_hx_Walk_followStep_146 : decode b_Walk_followStep 146 = .ok (.invokevirtual 223, 3) := by decide +kernel
theorem e_hx_Walk_followStep_149 : decode b_Walk_followStep 149 = .ok (.ireturn, 1) := by decide +kernel
theorem f_hx_Walk_followStep_108_6 : mblkB b_Walk_followStep [(108, .aload_n 0, vi 0), (109, .aload_n 1, vi 0), (110, .iload_n 2, vi 0), (111, .iconst 1, vi 1), (112, .iadd, vi 0), (113, .aload 5, vi 0)] = true := by decide +kernel
theorem e_hx_Walk_followStep_115 : decode b_Walk_followStep 115 = .ok (.getfield 166, 3) := by decide +kernel
theorem f_hx_Walk_followStep_118_4 : mblkB b_Walk_followStep [(118, .iload_n 3, vi 0), (119, .iload 4, vi 0), (121, .iconst 1, vi 1), (122, .iadd, vi 0)] = true := by decide +kernel
theorem e_hx_Walk_followStep_123 : decode b_Walk_followStep 123 = .ok (.invokevirtual 223, 3) := by decide +kernel
theorem f_hx_Walk_followStep_126_1 : mblkB b_Walk_followStep [(126, .goto 23, vi 149)] = true := by decide +kernel
theorem f_hx_Walk_followStep_150_5 : mblkB b_Walk_followStep [(150, .aload_n 0, vi 0), (151, .aload_n 1, vi 0), (152, .iload_n 2, vi 0), (153, .iload_n 3, vi 0), (154, .iload 4, vi 0)] = true := by decide +kernel
theorem e_hx_Walk_followStep_156 : decode b_Walk_followStep 156 = .ok (.invokevirtual 235, 3) := by decide +kernel
theorem e_hx_Walk_followStep_159 : decode b_Walk_followStep 159 = .ok (.ireturn, 1) := by decide +kernel
theorem f_hx_Walk_followStep_160_5 : mblkB b_Walk_followStep [(160, .aload_n 0, vi 0), (161, .aload_n 1, vi 0), (162, .aload 5, vi 0), (164, .iload_n 3, vi 0), (165, .iload 4, vi 0)] = true := by decide +kernel
theorem e_hx_Walk_followStep_167 : decode b_Walk_followStep 167 = .ok (.invokevirtual 238, 3) := by decide +kernel
theorem e_hx_Walk_followStep_170 : decode b_Walk_followStep 170 = .ok (.ireturn, 1) := by decide +kernel
set_option maxHeartbeats 4000000 in
set_option maxRecDepth 20000 in
theorem hx_Walk_followStep {fst : mA → Nat → Nat → Int → Int → Int → Option (Int × mA)} {fr lo : Nat} (hfst : ∀ (l : Launch) (D : va_G) (B : Nat) (H0 : Heap) (G : tG) (A : mA) (o : Nat) (a0 : Nat) (a1 : Int) (a2 : Int) (a3 : Int) (h_o : G o = some 7) (h_a0 : G a0 = some 2)  (r9 : Int) (A9 : mA), fst A o a0 a1 a2 a3 = some (r9, A9) → hMet l D B H0 G y_Walk_followStep b_Walk_followStep 6 (some .int) (fr + 30) (lo + 900) [vr 7 o, vr 2 a0, vi a1, vi a2, vi a3] A (fun v A' => v = some (vi r9) ∧ A' = A9)) : ∀ (l : Launch) (D : va_G) (B : Nat) (H0 : Heap) (G : tG) (A : mA) (o : Nat) (a0 : Nat) (a1 : Int) (a2 : Int) (a3 : Int) (h_o : G o = some 7) (h_a0 : G a0 = some 2)  (r9 : Int) (A9 : mA), f_Walk_followStep fst A o a0 a1 a2 a3 = some (r9, A9) → hMet l D B H0 G y_Walk_followStep b_Walk_followStep 6 (some .int) (fr + 36) (lo + 1080) [vr 7 o, vr 2 a0, vi a1, vi a2, vi a3] A (fun v A' => v = some (vi r9) ∧ A' = A9) := by
  intro l D B H0 G A o a0 a1 a2 a3 h_o h_a0 r9 A9 h
  refine h_met (by decide) rfl (fun g q C Rm Y E => ?_)
  show HM g D G q A 0 [(0, vr 7 o), (1, vr 2 a0), (2, vi a1), (3, vi a2), (4, vi a3)] []
  unfold f_Walk_followStep at h
  refine h_blk 2 [(0, vr 7 o), (1, vr 2 a0), (2, vi a1), (3, vi a2), (4, vi a3)] [vi a1, vr 2 a0] C f_hx_Walk_followStep_0_2 rfl ?_
  obtain ⟨q1, e2, h⟩ := obd h
  refine h_callV C Rm Y [vi a1] [] (hx_Prog_stepAt l D B H0 G _ a0 a1 h_a0 _ _ e2) cl_Walk_88 h_a0 rfl rfl rfl e_hx_Walk_followStep_2 rfl rfl rfl ⟨by show _ ≤ ((fr + 36) : Nat); omega, by show _ ≤ ((lo + 1080) : Nat); omega⟩ ?_
  rintro _ _ ⟨rfl, rfl, g3⟩
  show HM g D G q q1.2 5 [(0, vr 7 o), (1, vr 2 a0), (2, vi a1), (3, vi a2), (4, vi a3)] [vr 6 q1.1.toNat]
  refine h_blk 9 [(5, vr 6 q1.1.toNat), (0, vr 7 o), (1, vr 2 a0), (2, vi a1), (3, vi a2), (4, vi a3)] [vr 6 q1.1.toNat] C f_hx_Walk_followStep_5_2 rfl ?_
  refine h_geti C e_hx_Walk_followStep_9 fg_Walk_92 g3 rfl rfl rfl (q1.2 6 q1.1.toNat 0) rfl ?_
  obtain ⟨c4, h⟩ := igd h
  by_cases c5 : (q1.2 6 q1.1.toNat 0) = 0
  · have h := ifp c5 h
    refine h_tabIn (tgt := 48) C e_hx_Walk_followStep_12 c4 (by omega) (by omega) (by rw [c5]; rfl) (by decide) ?_
    refine h_blk 51 [(5, vr 6 q1.1.toNat), (0, vr 7 o), (1, vr 2 a0), (2, vi a1), (3, vi a2), (4, vi a3)] [vr 6 q1.1.toNat, vi a2] C f_hx_Walk_followStep_48_2 rfl ?_
    refine h_geti C e_hx_Walk_followStep_51 fg_Walk_128 g3 rfl rfl rfl (q1.2 6 q1.1.toNat 1) rfl ?_
    refine h_blk 58 [(5, vr 6 q1.1.toNat), (0, vr 7 o), (1, vr 2 a0), (2, vi a1), (3, vi a2), (4, vi a3)] [vr 6 q1.1.toNat, vr 2 a0, vr 7 o, vi (q1.2 6 q1.1.toNat 1), vi a2] C f_hx_Walk_followStep_54_3 rfl ?_
    obtain ⟨q6, e7, h⟩ := obd h
    refine h_callV C Rm Y [vr 2 a0, vr 6 q1.1.toNat] [vi (q1.2 6 q1.1.toNat 1), vi a2] (hx_Walk_drawn l D B H0 G _ o a0 q1.1.toNat h_o h_a0 g3 _ _ e7) cl_Walk_231 h_o rfl rfl rfl e_hx_Walk_followStep_58 rfl rfl rfl ⟨by show _ ≤ ((fr + 36) : Nat); omega, by show _ ≤ ((lo + 1080) : Nat); omega⟩ ?_
    rintro _ _ ⟨rfl, rfl⟩
    show HM g D G q q6.2 61 [(5, vr 6 q1.1.toNat), (0, vr 7 o), (1, vr 2 a0), (2, vi a1), (3, vi a2), (4, vi a3)] [vi q6.1, vi (q1.2 6 q1.1.toNat 1), vi a2]
    obtain ⟨q8, e9, h⟩ := obd h
    refine h_callSn C Rm Y [vi a2, vi (q1.2 6 q1.1.toNat 1), vi q6.1] [] (hx_CS_withDigit l D B H0 G _ a2 (q1.2 6 q1.1.toNat 1) q6.1 _ _ e9) cl_Walk_135 e_hx_Walk_followStep_61 rfl rfl rfl ⟨by show _ ≤ ((fr + 36) : Nat); omega, by show _ ≤ ((lo + 1080) : Nat); omega⟩ ?_
    rintro _ _ ⟨rfl, rfl⟩
    show HM g D G q q8.2 64 [(5, vr 6 q1.1.toNat), (0, vr 7 o), (1, vr 2 a0), (2, vi a1), (3, vi a2), (4, vi a3)] [vi q8.1]
    exact h_iret C Rm E e_hx_Walk_followStep_64 (fin1 h)
  have h := ifn c5 h
  by_cases c10 : (q1.2 6 q1.1.toNat 0) = 1
  · have h := ifp c10 h
    refine h_tabIn (tgt := 65) C e_hx_Walk_followStep_12 c4 (by omega) (by omega) (by rw [c10]; rfl) (by decide) ?_
    refine h_blk 68 [(5, vr 6 q1.1.toNat), (0, vr 7 o), (1, vr 2 a0), (2, vi a1), (3, vi a2), (4, vi a3)] [vr 6 q1.1.toNat, vi a2] C f_hx_Walk_followStep_65_2 rfl ?_
    refine h_geti C e_hx_Walk_followStep_68 fg_Walk_128 g3 rfl rfl rfl (q1.2 6 q1.1.toNat 1) rfl ?_
    refine h_blk 75 [(5, vr 6 q1.1.toNat), (0, vr 7 o), (1, vr 2 a0), (2, vi a1), (3, vi a2), (4, vi a3)] [vi a2, vr 6 q1.1.toNat, vr 2 a0, vi (q1.2 6 q1.1.toNat 1), vi a2] C f_hx_Walk_followStep_71_3 rfl ?_
    obtain ⟨q11, e12, h⟩ := obd h
    refine h_callV C Rm Y [vr 6 q1.1.toNat, vi a2] [vi (q1.2 6 q1.1.toNat 1), vi a2] (hx_Prog_digitOf l D B H0 G _ a0 q1.1.toNat a2 h_a0 g3 _ _ e12) cl_Walk_156 h_a0 rfl rfl rfl e_hx_Walk_followStep_75 rfl rfl rfl ⟨by show _ ≤ ((fr + 36) : Nat); omega, by show _ ≤ ((lo + 1080) : Nat); omega⟩ ?_
    rintro _ _ ⟨rfl, rfl⟩
    show HM g D G q q11.2 78 [(5, vr 6 q1.1.toNat), (0, vr 7 o), (1, vr 2 a0), (2, vi a1), (3, vi a2), (4, vi a3)] [vi q11.1, vi (q1.2 6 q1.1.toNat 1), vi a2]
    obtain ⟨q13, e14, h⟩ := obd h
    refine h_callSn C Rm Y [vi a2, vi (q1.2 6 q1.1.toNat 1), vi q11.1] [] (hx_CS_withDigit l D B H0 G _ a2 (q1.2 6 q1.1.toNat 1) q11.1 _ _ e14) cl_Walk_135 e_hx_Walk_followStep_78 rfl rfl rfl ⟨by show _ ≤ ((fr + 36) : Nat); omega, by show _ ≤ ((lo + 1080) : Nat); omega⟩ ?_
    rintro _ _ ⟨rfl, rfl⟩
    show HM g D G q q13.2 81 [(5, vr 6 q1.1.toNat), (0, vr 7 o), (1, vr 2 a0), (2, vi a1), (3, vi a2), (4, vi a3)] [vi q13.1]
    exact h_iret C Rm E e_hx_Walk_followStep_81 (fin1 h)
  have h := ifn c10 h
  by_cases c15 : (q1.2 6 q1.1.toNat 0) = 2
  · have h := ifp c15 h
    refine h_tabIn (tgt := 82) C e_hx_Walk_followStep_12 c4 (by omega) (by omega) (by rw [c15]; rfl) (by decide) ?_
    refine h_blk 86 [(5, vr 6 q1.1.toNat), (0, vr 7 o), (1, vr 2 a0), (2, vi a1), (3, vi a2), (4, vi a3)] [vi a2, vr 6 q1.1.toNat, vr 2 a0] C f_hx_Walk_followStep_82_3 rfl ?_
    obtain ⟨q16, e17, h⟩ := obd h
    refine h_callV C Rm Y [vr 6 q1.1.toNat, vi a2] [] (hx_Prog_valueOf l D B H0 G _ a0 q1.1.toNat a2 h_a0 g3 _ _ e17) cl_Walk_159 h_a0 rfl rfl rfl e_hx_Walk_followStep_86 rfl rfl rfl ⟨by show _ ≤ ((fr + 36) : Nat); omega, by show _ ≤ ((lo + 1080) : Nat); omega⟩ ?_
    rintro _ _ ⟨rfl, rfl⟩
    show HM g D G q q16.2 89 [(5, vr 6 q1.1.toNat), (0, vr 7 o), (1, vr 2 a0), (2, vi a1), (3, vi a2), (4, vi a3)] [vi q16.1]
    obtain ⟨c18, h⟩ := igd h
    refine h_if_eq (tgt := 96) C e_hx_Walk_followStep_89 (by decide) c18 (fun c19 => ?_) (fun c19 => ?_)
    · have h := ifp c19 h
      refine h_blk 97 [(5, vr 6 q1.1.toNat), (0, vr 7 o), (1, vr 2 a0), (2, vi a1), (3, vi a2), (4, vi a3)] [vi (-1)] C f_hx_Walk_followStep_96_1 rfl ?_
      exact h_iret C Rm E e_hx_Walk_followStep_97 (fin1 h)
    · have h := ifn c19 h
      refine h_blk 97 [(5, vr 6 q1.1.toNat), (0, vr 7 o), (1, vr 2 a0), (2, vi a1), (3, vi a2), (4, vi a3)] [vi a2] C f_hx_Walk_followStep_92_2 rfl ?_
      exact h_iret C Rm E e_hx_Walk_followStep_97 (fin1 h)
  have h := ifn c15 h
  by_cases c20 : (q1.2 6 q1.1.toNat 0) = 3
  · have h := ifp c20 h
    refine h_tabIn (tgt := 98) C e_hx_Walk_followStep_12 c4 (by omega) (by omega) (by rw [c20]; rfl) (by decide) ?_
    refine h_blk 102 [(5, vr 6 q1.1.toNat), (0, vr 7 o), (1, vr 2 a0), (2, vi a1), (3, vi a2), (4, vi a3)] [vi a2, vr 6 q1.1.toNat, vr 2 a0] C f_hx_Walk_followStep_98_3 rfl ?_
    obtain ⟨q21, e22, h⟩ := obd h
    refine h_callV C Rm Y [vr 6 q1.1.toNat, vi a2] [] (hx_Prog_valueOf l D B H0 G _ a0 q1.1.toNat a2 h_a0 g3 _ _ e22) cl_Walk_159 h_a0 rfl rfl rfl e_hx_Walk_followStep_102 rfl rfl rfl ⟨by show _ ≤ ((fr + 36) : Nat); omega, by show _ ≤ ((lo + 1080) : Nat); omega⟩ ?_
    rintro _ _ ⟨rfl, rfl⟩
    show HM g D G q q21.2 105 [(5, vr 6 q1.1.toNat), (0, vr 7 o), (1, vr 2 a0), (2, vi a1), (3, vi a2), (4, vi a3)] [vi q21.1]
    obtain ⟨c23, h⟩ := igd h
    refine h_if_eq (tgt := 129) C e_hx_Walk_followStep_105 (by decide) c23 (fun c24 => ?_) (fun c24 => ?_)
    · have h := ifp c24 h
      refine h_blk 133 [(5, vr 6 q1.1.toNat), (0, vr 7 o), (1, vr 2 a0), (2, vi a1), (3, vi a2), (4, vi a3)] [vr 6 q1.1.toNat, vr 2 a0, vr 7 o] C f_hx_Walk_followStep_129_3 rfl ?_
      refine h_geti C e_hx_Walk_followStep_133 fg_Walk_166 g3 rfl rfl rfl (q21.2 6 q1.1.toNat 5) rfl ?_
      refine h_blk 138 [(5, vr 6 q1.1.toNat), (0, vr 7 o), (1, vr 2 a0), (2, vi a1), (3, vi a2), (4, vi a3)] [vi a1, vr 2 a0, vi (q21.2 6 q1.1.toNat 5), vr 2 a0, vr 7 o] C f_hx_Walk_followStep_136_2 rfl ?_
      obtain ⟨q25, e26, h⟩ := obd h
      refine h_callV C Rm Y [vi a1] [vi (q21.2 6 q1.1.toNat 5), vr 2 a0, vr 7 o] (hx_Prog_behind l D B H0 G _ a0 a1 h_a0 _ _ e26) cl_Walk_81 h_a0 rfl rfl rfl e_hx_Walk_followStep_138 rfl rfl rfl ⟨by show _ ≤ ((fr + 36) : Nat); omega, by show _ ≤ ((lo + 1080) : Nat); omega⟩ ?_
      rintro _ _ ⟨rfl, rfl⟩
      show HM g D G q q25.2 141 [(5, vr 6 q1.1.toNat), (0, vr 7 o), (1, vr 2 a0), (2, vi a1), (3, vi a2), (4, vi a3)] [vi q25.1, vi (q21.2 6 q1.1.toNat 5), vr 2 a0, vr 7 o]
      refine h_blk 146 [(5, vr 6 q1.1.toNat), (0, vr 7 o), (1, vr 2 a0), (2, vi a1), (3, vi a2), (4, vi a3)] [vi (a3 + 1), vi a2, vi q25.1, vi (q21.2 6 q1.1.toNat 5), vr 2 a0, vr 7 o] C f_hx_Walk_followStep_141_4 rfl ?_
      obtain ⟨q27, e28, h⟩ := obd h
      refine h_callV C Rm Y [vr 2 a0, vi (q21.2 6 q1.1.toNat 5), vi q25.1, vi a2, vi (a3 + 1)] [] (hx_Walk_followBlock hfst l D B H0 G _ o a0 (q21.2 6 q1.1.toNat 5) q25.1 a2 (a3 + 1) h_o h_a0 _ _ e28) cl_Walk_223 h_o rfl rfl rfl e_hx_Walk_followStep_146 rfl rfl rfl ⟨by show _ ≤ ((fr + 36) : Nat); omega, by show _ ≤ ((lo + 1080) : Nat); omega⟩ ?_
      rintro _ _ ⟨rfl, rfl⟩
      show HM g D G q q27.2 149 [(5, vr 6 q1.1.toNat), (0, vr 7 o), (1, vr 2 a0), (2, vi a1), (3, vi a2), (4, vi a3)] [vi q27.1]
      exact h_iret C Rm E e_hx_Walk_followStep_149 (fin1 h)
    · have h := ifn c24 h
      refine h_blk 115 [(5, vr 6 q1.1.toNat), (0, vr 7 o), (1, vr 2 a0), (2, vi a1), (3, vi a2), (4, vi a3)] [vr 6 q1.1.toNat, vi (a1 + 1), vr 2 a0, vr 7 o] C f_hx_Walk_followStep_108_6 rfl ?_
      refine h_geti C e_hx_Walk_followStep_115 fg_Walk_166 g3 rfl rfl rfl (q21.2 6 q1.1.toNat 5) rfl ?_
      refine h_blk 123 [(5, vr 6 q1.1.toNat), (0, vr 7 o), (1, vr 2 a0), (2, vi a1), (3, vi a2), (4, vi a3)] [vi (a3 + 1), vi a2, vi (q21.2 6 q1.1.toNat 5), vi (a1 + 1), vr 2 a0, vr 7 o] C f_hx_Walk_followStep_118_4 rfl ?_
      obtain ⟨q29, e30, h⟩ := obd h
      refine h_callV C Rm Y [vr 2 a0, vi (a1 + 1), vi (q21.2 6 q1.1.toNat 5), vi a2, vi (a3 + 1)] [] (hx_Walk_followBlock hfst l D B H0 G _ o a0 (a1 + 1) (q21.2 6 q1.1.toNat 5) a2 (a3 + 1) h_o h_a0 _ _ e30) cl_Walk_223 h_o rfl rfl rfl e_hx_Walk_followStep_123 rfl rfl rfl ⟨by show _ ≤ ((fr + 36) : Nat); omega, by show _ ≤ ((lo + 1080) : Nat); omega⟩ ?_
      rintro _ _ ⟨rfl, rfl⟩
      show HM g D G q q29.2 126 [(5, vr 6 q1.1.toNat), (0, vr 7 o), (1, vr 2 a0), (2, vi a1), (3, vi a2), (4, vi a3)] [vi q29.1]
      refine h_blk 149 [(5, vr 6 q1.1.toNat), (0, vr 7 o), (1, vr 2 a0), (2, vi a1), (3, vi a2), (4, vi a3)] [vi q29.1] C f_hx_Walk_followStep_126_1 rfl ?_
      exact h_iret C Rm E e_hx_Walk_followStep_149 (fin1 h)
  have h := ifn c20 h
  by_cases c31 : (q1.2 6 q1.1.toNat 0) = 4
  · have h := ifp c31 h
    refine h_tabIn (tgt := 150) C e_hx_Walk_followStep_12 c4 (by omega) (by omega) (by rw [c31]; rfl) (by decide) ?_
    refine h_blk 156 [(5, vr 6 q1.1.toNat), (0, vr 7 o), (1, vr 2 a0), (2, vi a1), (3, vi a2), (4, vi a3)] [vi a3, vi a2, vi a1, vr 2 a0, vr 7 o] C f_hx_Walk_followStep_150_5 rfl ?_
    obtain ⟨q32, e33, h⟩ := obd h
    refine h_callV C Rm Y [vr 2 a0, vi a1, vi a2, vi a3] [] (hx_Walk_followLoop hfst l D B H0 G _ o a0 a1 a2 a3 h_o h_a0 _ _ e33) cl_Walk_235 h_o rfl rfl rfl e_hx_Walk_followStep_156 rfl rfl rfl ⟨by show _ ≤ ((fr + 36) : Nat); omega, by show _ ≤ ((lo + 1080) : Nat); omega⟩ ?_
    rintro _ _ ⟨rfl, rfl⟩
    show HM g D G q q32.2 159 [(5, vr 6 q1.1.toNat), (0, vr 7 o), (1, vr 2 a0), (2, vi a1), (3, vi a2), (4, vi a3)] [vi q32.1]
    exact h_iret C Rm E e_hx_Walk_followStep_159 (fin1 h)
  have h := ifn c31 h
  refine h_tabOut (tgt := 160) C e_hx_Walk_followStep_12 c4 (by omega) (by decide) ?_
  refine h_blk 167 [(5, vr 6 q1.1.toNat), (0, vr 7 o), (1, vr 2 a0), (2, vi a1), (3, vi a2), (4, vi a3)] [vi a3, vi a2, vr 6 q1.1.toNat, vr 2 a0, vr 7 o] C f_hx_Walk_followStep_160_5 rfl ?_
  obtain ⟨q34, e35, h⟩ := obd h
  refine h_callV C Rm Y [vr 2 a0, vr 6 q1.1.toNat, vi a2, vi a3] [] (hx_Walk_followRun hfst l D B H0 G _ o a0 q1.1.toNat a2 a3 h_o h_a0 g3 _ _ e35) cl_Walk_238 h_o rfl rfl rfl e_hx_Walk_followStep_167 rfl rfl rfl ⟨by show _ ≤ ((fr + 36) : Nat); omega, by show _ ≤ ((lo + 1080) : Nat); omega⟩ ?_
  rintro _ _ ⟨rfl, rfl⟩
  show HM g D G q q34.2 170 [(5, vr 6 q1.1.toNat), (0, vr 7 o), (1, vr 2 a0), (2, vi a1), (3, vi a2), (4, vi a3)] [vi q34.1]
  exact h_iret C Rm E e_hx_Walk_followStep_170 (fin1 h)

def f_Walk_fsN : Nat → mA → Nat → Nat → Int → Int → Int → Option (Int × mA)
  | 0, _, _, _, _, _, _ => none
  | n + 1, A, o, a0, a1, a2, a3 => f_Walk_followStep (f_Walk_fsN n) A o a0 a1 a2 a3
theorem hx_Walk_fsN : ∀ n : Nat, ∀ (l : Launch) (D : va_G) (B : Nat) (H0 : Heap) (G : tG) (A : mA) (o : Nat) (a0 : Nat) (a1 : Int) (a2 : Int) (a3 : Int) (h_o : G o = some 7) (h_a0 : G a0 = some 2)  (r9 : Int) (A9 : mA), f_Walk_fsN n A o a0 a1 a2 a3 = some (r9, A9) → hMet l D B H0 G y_Walk_followStep b_Walk_followStep 6 (some .int) (6 * n + 30) (180 * n + 900) [vr 7 o, vr 2 a0, vi a1, vi a2, vi a3] A (fun v A' => v = some (vi r9) ∧ A' = A9) := by
  intro n
  induction n with
  | zero => intro l D B H0 G A o a0 a1 a2 a3 ho ha0 r9 A9 h; cases h
  | succ n ih =>
    intro l D B H0 G A o a0 a1 a2 a3 ho ha0 r9 A9 h
    have k := hx_Walk_followStep ih l D B H0 G A o a0 a1 a2 a3 ho ha0 r9 A9 h
    have e1 : 6 * (n + 1) + 30 = 6 * n + 36 := by omega
    have e2 : 180 * (n + 1) + 900 = 180 * n + 1080 := by omega
    rw [e1, e2]
    exact k
def f_Walk_comingBy (A : mA) (o : Nat) (a0 : Nat) (a1 : Int) (a2 : Int) : Option (Int × mA) := (Option.bind (f_Walk_followBlock (f_Walk_fsN 40) (mu A 7 o 3 a2) o a0 0 (A 2 a0 1) a1 0) (fun q1 => (some (q1.1, q1.2))))
theorem f_hx_Walk_comingBy_0_2 : mblkB b_Walk_comingBy [(0, .aload_n 0, vi 0), (1, .iload_n 3, vi 0)] = true := by decide +kernel
theorem e_hx_Walk_comingBy_2 : decode b_Walk_comingBy 2 = .ok (.putfield 220, 3) := by decide +kernel
theorem f_hx_Walk_comingBy_5_4 : mblkB b_Walk_comingBy [(5, .aload_n 0, vi 0), (6, .aload_n 1, vi 0), (7, .iconst 0, vi 0), (8, .aload_n 1, vi 0)] = true := by decide +kernel
theorem e_hx_Walk_comingBy_9 : decode b_Walk_comingBy 9 = .ok (.getfield 39, 3) := by decide +kernel
theorem f_hx_Walk_comingBy_12_2 : mblkB b_Walk_comingBy [(12, .iload_n 2, vi 0), (13, .iconst 0, vi 0)] = true := by decide +kernel
theorem e_hx_Walk_comingBy_14 : decode b_Walk_comingBy 14 = .ok (.invokevirtual 223, 3) := by decide +kernel
theorem e_hx_Walk_comingBy_17 : decode b_Walk_comingBy 17 = .ok (.ireturn, 1) := by decide +kernel
set_option maxHeartbeats 4000000 in
set_option maxRecDepth 20000 in
theorem hx_Walk_comingBy  : ∀ (l : Launch) (D : va_G) (B : Nat) (H0 : Heap) (G : tG) (A : mA) (o : Nat) (a0 : Nat) (a1 : Int) (a2 : Int) (h_o : G o = some 7) (h_a0 : G a0 = some 2)  (r9 : Int) (A9 : mA), f_Walk_comingBy  A o a0 a1 a2 = some (r9, A9) → hMet l D B H0 G y_Walk_comingBy b_Walk_comingBy 4 (some .int) 273 8188 [vr 7 o, vr 2 a0, vi a1, vi a2] A (fun v A' => v = some (vi r9) ∧ A' = A9) := by
  intro l D B H0 G A o a0 a1 a2 h_o h_a0 r9 A9 h
  refine h_met (by decide) rfl (fun g q C Rm Y E => ?_)
  show HM g D G q A 0 [(0, vr 7 o), (1, vr 2 a0), (2, vi a1), (3, vi a2)] []
  unfold f_Walk_comingBy at h
  refine h_blk 2 [(0, vr 7 o), (1, vr 2 a0), (2, vi a1), (3, vi a2)] [vi a2, vr 7 o] C f_hx_Walk_comingBy_0_2 rfl ?_
  refine h_puti C e_hx_Walk_comingBy_2 fp_Walk_220 h_o rfl rfl rfl ?_
  refine h_blk 9 [(0, vr 7 o), (1, vr 2 a0), (2, vi a1), (3, vi a2)] [vr 2 a0, vi 0, vr 2 a0, vr 7 o] C f_hx_Walk_comingBy_5_4 rfl ?_
  refine h_geti C e_hx_Walk_comingBy_9 fg_Walk_39 h_a0 rfl rfl rfl (A 2 a0 1) rfl ?_
  refine h_blk 14 [(0, vr 7 o), (1, vr 2 a0), (2, vi a1), (3, vi a2)] [vi 0, vi a1, vi (A 2 a0 1), vi 0, vr 2 a0, vr 7 o] C f_hx_Walk_comingBy_12_2 rfl ?_
  obtain ⟨q1, e2, h⟩ := obd h
  refine h_callV C Rm Y [vr 2 a0, vi 0, vi (A 2 a0 1), vi a1, vi 0] [] (hx_Walk_followBlock (hx_Walk_fsN 40) l D B H0 G _ o a0 0 (A 2 a0 1) a1 0 h_o h_a0 _ _ e2) cl_Walk_223 h_o rfl rfl rfl e_hx_Walk_comingBy_14 rfl rfl rfl ⟨by decide, by decide⟩ ?_
  rintro _ _ ⟨rfl, rfl⟩
  show HM g D G q q1.2 17 [(0, vr 7 o), (1, vr 2 a0), (2, vi a1), (3, vi a2)] [vi q1.1]
  exact h_iret C Rm E e_hx_Walk_comingBy_17 (fin1 h)

def f_CS_unpacked_4 : Nat → mA → Int → Int → Int → Option (Int × mA)
  | 0, _, _, _, _ => none
  | n + 1, A, b0, b1, b2 => (if g32 b2 then (if 6 ≤ b2 then (some (b1, A)) else (Option.bind (f_CS_digitAt A b0 b2) (fun q3 => (f_CS_unpacked_4  n q3.2 b0 ((b1 * 10) + q3.1) (b2 + 1))))) else none)
def f_CS_unpacked (A : mA) (a0 : Int) : Option (Int × mA) := (f_CS_unpacked_4  20 A a0 0 0)
theorem f_hx_CS_unpacked_0_4 : mblkB b_CS_unpacked [(0, .iconst 0, vi 0), (1, .istore_n 1, vi 0), (2, .iconst 0, vi 0), (3, .istore_n 2, vi 0)] = true := by decide +kernel
theorem f_hx_CS_unpacked_4_2 : mblkB b_CS_unpacked [(4, .iload_n 2, vi 0), (5, .bipush 6, vi 6)] = true := by decide +kernel
theorem e_hx_CS_unpacked_7 : decode b_CS_unpacked 7 = .ok (.if_icmp .ge 20, 3) := by decide +kernel
theorem f_hx_CS_unpacked_27_1 : mblkB b_CS_unpacked [(27, .iload_n 1, vi 0)] = true := by decide +kernel
theorem e_hx_CS_unpacked_28 : decode b_CS_unpacked 28 = .ok (.ireturn, 1) := by decide +kernel
theorem f_hx_CS_unpacked_10_5 : mblkB b_CS_unpacked [(10, .iload_n 1, vi 0), (11, .bipush 10, vi 10), (13, .imul, vi 0), (14, .iload_n 0, vi 0), (15, .iload_n 2, vi 0)] = true := by decide +kernel
theorem e_hx_CS_unpacked_16 : decode b_CS_unpacked 16 = .ok (.invokestatic 86, 3) := by decide +kernel
theorem f_hx_CS_unpacked_19_4 : mblkB b_CS_unpacked [(19, .iadd, vi 0), (20, .istore_n 1, vi 0), (21, .iinc 2 1, vi 1), (24, .goto (-20), vi 4)] = true := by decide +kernel
set_option maxHeartbeats 4000000 in
set_option maxRecDepth 20000 in
theorem hx_CS_unpacked  : ∀ (l : Launch) (D : va_G) (B : Nat) (H0 : Heap) (G : tG) (A : mA) (a0 : Int)  (r9 : Int) (A9 : mA), f_CS_unpacked  A a0 = some (r9, A9) → hMet l D B H0 G y_CS_unpacked b_CS_unpacked 3 (some .int) 1 21 [vi a0] A (fun v A' => v = some (vi r9) ∧ A' = A9) := by
  intro l D B H0 G A a0  r9 A9 h
  refine h_met (by decide) rfl (fun g q C Rm Y E => ?_)
  have hd_4 : ∀ (n : Nat) (A : mA) (b0 : Int) (b1 : Int) (b2 : Int) , f_CS_unpacked_4  n A b0 b1 b2 = some (r9, A9) → HM g D G q A 4 [(0, vi b0), (1, vi b1), (2, vi b2)] [] := by
    intro n
    induction n with
    | zero => intro A b0 b1 b2  h; cases h
    | succ n ih =>
      intro A b0 b1 b2  h
      unfold f_CS_unpacked_4 at h
      refine h_blk 7 [(0, vi b0), (1, vi b1), (2, vi b2)] [vi 6, vi b2] C f_hx_CS_unpacked_4_2 rfl ?_
      obtain ⟨c1, h⟩ := igd h
      refine h_icmp_ge (tgt := 27) C e_hx_CS_unpacked_7 (by decide) c1 (by decide) (fun c2 => ?_) (fun c2 => ?_)
      · have h := ifp c2 h
        refine h_blk 28 [(0, vi b0), (1, vi b1), (2, vi b2)] [vi b1] C f_hx_CS_unpacked_27_1 rfl ?_
        exact h_iret C Rm E e_hx_CS_unpacked_28 (fin1 h)
      · have h := ifn c2 h
        refine h_blk 16 [(0, vi b0), (1, vi b1), (2, vi b2)] [vi b2, vi b0, vi (b1 * 10)] C f_hx_CS_unpacked_10_5 rfl ?_
        obtain ⟨q3, e4, h⟩ := obd h
        refine h_callS C Rm Y [vi b0, vi b2] [vi (b1 * 10)] (hx_CS_digitAt l D B H0 G _ b0 b2 _ _ e4) cl_CS_86 e_hx_CS_unpacked_16 rfl rfl rfl ⟨by decide, by decide⟩ ?_
        rintro _ _ ⟨rfl, rfl⟩
        show HM g D G q q3.2 19 [(0, vi b0), (1, vi b1), (2, vi b2)] [vi q3.1, vi (b1 * 10)]
        refine h_blk 4 [(2, vi (b2 + 1)), (1, vi ((b1 * 10) + q3.1)), (0, vi b0)] [] C f_hx_CS_unpacked_19_4 rfl ?_
        refine h_loc [(0, vi b0), (1, vi ((b1 * 10) + q3.1)), (2, vi (b2 + 1))] ⟨rfl, rfl, rfl, trivial⟩ ?_
        exact ih q3.2 b0 ((b1 * 10) + q3.1) (b2 + 1)  h
  show HM g D G q A 0 [(0, vi a0)] []
  unfold f_CS_unpacked at h
  refine h_blk 4 [(2, vi 0), (1, vi 0), (0, vi a0)] [] C f_hx_CS_unpacked_0_4 rfl ?_
  refine h_loc [(0, vi a0), (1, vi 0), (2, vi 0)] ⟨rfl, rfl, rfl, trivial⟩ ?_
  exact hd_4 _ A a0 0 0  h

def f_CS_comes (A : mA) (o : Nat) (a0 : Int) (a1 : Int) : Option (Int × mA) := (Option.bind (f_CS_isProgram A o a0) (fun q1 => (if g32 q1.1 then (if q1.1 = 0 then (some ((-2), q1.2)) else (if (0 ≤ a0 ∧ a0 < ((6 : Nat) : Int)) then (if 0 ≤ (q1.2 21 ((q1.2 8 o 2).toNat) a0.toNat) then (Option.bind (f_Walk_comingBy q1.2 ((q1.2 8 o 10).toNat) ((q1.2 21 ((q1.2 8 o 2).toNat) a0.toNat).toNat) (q1.2 8 o 4) a1) (fun q10 => (if g32 q10.1 then (if q10.1 = (-1) then (some ((-1), q10.2)) else (Option.bind (f_CS_unpacked q10.2 q10.1) (fun q14 => (some (q14.1, q14.2))))) else none))) else none) else none)) else none)))
theorem f_hx_CS_comes_0_2 : mblkB b_CS_comes [(0, .aload_n 0, vi 0), (1, .iload_n 1, vi 0)] = true := by decide +kernel
theorem e_hx_CS_comes_2 : decode b_CS_comes 2 = .ok (.invokevirtual 94, 3) := by decide +kernel
theorem e_hx_CS_comes_5 : decode b_CS_comes 5 = .ok (.ifCond .ne 6, 3) := by decide +kernel
theorem f_hx_CS_comes_11_1 : mblkB b_CS_comes [(11, .aload_n 0, vi 0)] = true := by decide +kernel
theorem e_hx_CS_comes_12 : decode b_CS_comes 12 = .ok (.getfield 35, 3) := by decide +kernel
theorem f_hx_CS_comes_15_1 : mblkB b_CS_comes [(15, .aload_n 0, vi 0)] = true := by decide +kernel
theorem e_hx_CS_comes_16 : decode b_CS_comes 16 = .ok (.getfield 15, 3) := by decide +kernel
theorem f_hx_CS_comes_19_1 : mblkB b_CS_comes [(19, .iload_n 1, vi 0)] = true := by decide +kernel
theorem e_hx_CS_comes_20 : decode b_CS_comes 20 = .ok (.aaload, 1) := by decide +kernel
theorem f_hx_CS_comes_21_1 : mblkB b_CS_comes [(21, .aload_n 0, vi 0)] = true := by decide +kernel
theorem e_hx_CS_comes_22 : decode b_CS_comes 22 = .ok (.getfield 83, 3) := by decide +kernel
theorem f_hx_CS_comes_25_1 : mblkB b_CS_comes [(25, .iload_n 2, vi 0)] = true := by decide +kernel
theorem e_hx_CS_comes_26 : decode b_CS_comes 26 = .ok (.invokevirtual 197, 3) := by decide +kernel
theorem f_hx_CS_comes_29_3 : mblkB b_CS_comes [(29, .istore_n 3, vi 0), (30, .iload_n 3, vi 0), (31, .iconst (-1), vi (-1))] = true := by decide +kernel
theorem e_hx_CS_comes_32 : decode b_CS_comes 32 = .ok (.if_icmp .ne 7, 3) := by decide +kernel
theorem f_hx_CS_comes_39_1 : mblkB b_CS_comes [(39, .iload_n 3, vi 0)] = true := by decide +kernel
theorem e_hx_CS_comes_40 : decode b_CS_comes 40 = .ok (.invokestatic 176, 3) := by decide +kernel
theorem e_hx_CS_comes_43 : decode b_CS_comes 43 = .ok (.ireturn, 1) := by decide +kernel
theorem f_hx_CS_comes_35_2 : mblkB b_CS_comes [(35, .iconst (-1), vi (-1)), (36, .goto 7, vi 43)] = true := by decide +kernel
theorem f_hx_CS_comes_8_1 : mblkB b_CS_comes [(8, .bipush (-2), vi (-2))] = true := by decide +kernel
theorem e_hx_CS_comes_10 : decode b_CS_comes 10 = .ok (.ireturn, 1) := by decide +kernel
set_option maxHeartbeats 4000000 in
set_option maxRecDepth 20000 in
theorem hx_CS_comes  : ∀ (l : Launch) (D : va_G) (B : Nat) (H0 : Heap) (G : tG) (A : mA) (o : Nat) (a0 : Int) (a1 : Int) (h_o : G o = some 8)  (r9 : Int) (A9 : mA), f_CS_comes  A o a0 a1 = some (r9, A9) → hMet l D B H0 G y_CS_comes b_CS_comes 4 (some .int) 274 8211 [vr 8 o, vi a0, vi a1] A (fun v A' => v = some (vi r9) ∧ A' = A9) := by
  intro l D B H0 G A o a0 a1 h_o r9 A9 h
  refine h_met (by decide) rfl (fun g q C Rm Y E => ?_)
  show HM g D G q A 0 [(0, vr 8 o), (1, vi a0), (2, vi a1)] []
  unfold f_CS_comes at h
  refine h_blk 2 [(0, vr 8 o), (1, vi a0), (2, vi a1)] [vi a0, vr 8 o] C f_hx_CS_comes_0_2 rfl ?_
  obtain ⟨q1, e2, h⟩ := obd h
  refine h_callV C Rm Y [vi a0] [] (hx_CS_isProgram l D B H0 G _ o a0 h_o _ _ e2) cl_CS_94 h_o rfl rfl rfl e_hx_CS_comes_2 rfl rfl rfl ⟨by decide, by decide⟩ ?_
  rintro _ _ ⟨rfl, rfl⟩
  show HM g D G q q1.2 5 [(0, vr 8 o), (1, vi a0), (2, vi a1)] [vi q1.1]
  obtain ⟨c3, h⟩ := igd h
  refine h_if_ne (tgt := 11) C e_hx_CS_comes_5 (by decide) c3 (fun c4 => ?_) (fun c4 => ?_)
  · have h := ifn c4 h
    refine h_blk 12 [(0, vr 8 o), (1, vi a0), (2, vi a1)] [vr 8 o] C f_hx_CS_comes_11_1 rfl ?_
    refine h_getr4 C e_hx_CS_comes_12 fg_CS_35 h_o rfl rfl rfl rfl (fun g5 => ?_)
    refine h_blk 16 [(0, vr 8 o), (1, vi a0), (2, vi a1)] [vr 8 o, vr 7 ((q1.2 8 o 10).toNat)] C f_hx_CS_comes_15_1 rfl ?_
    refine h_getr4 C e_hx_CS_comes_16 fg_CS_15 h_o rfl rfl rfl rfl (fun g6 => ?_)
    refine h_blk 20 [(0, vr 8 o), (1, vi a0), (2, vi a1)] [vi a0, vr 21 ((q1.2 8 o 2).toNat), vr 7 ((q1.2 8 o 10).toNat)] C f_hx_CS_comes_19_1 rfl ?_
    obtain ⟨c7, h⟩ := igd h
    obtain ⟨c8, h⟩ := igd h
    refine h_aald5 C e_hx_CS_comes_20 rfl rfl g6 rfl rfl rfl rfl (by decide) c7.1 c7.2 c8 (fun g9 => ?_)
    refine h_blk 22 [(0, vr 8 o), (1, vi a0), (2, vi a1)] [vr 8 o, vr 2 ((q1.2 21 ((q1.2 8 o 2).toNat) a0.toNat).toNat), vr 7 ((q1.2 8 o 10).toNat)] C f_hx_CS_comes_21_1 rfl ?_
    refine h_geti C e_hx_CS_comes_22 fg_CS_83 h_o rfl rfl rfl (q1.2 8 o 4) rfl ?_
    refine h_blk 26 [(0, vr 8 o), (1, vi a0), (2, vi a1)] [vi a1, vi (q1.2 8 o 4), vr 2 ((q1.2 21 ((q1.2 8 o 2).toNat) a0.toNat).toNat), vr 7 ((q1.2 8 o 10).toNat)] C f_hx_CS_comes_25_1 rfl ?_
    obtain ⟨q10, e11, h⟩ := obd h
    refine h_callV C Rm Y [vr 2 ((q1.2 21 ((q1.2 8 o 2).toNat) a0.toNat).toNat), vi (q1.2 8 o 4), vi a1] [] (hx_Walk_comingBy l D B H0 G _ ((q1.2 8 o 10).toNat) ((q1.2 21 ((q1.2 8 o 2).toNat) a0.toNat).toNat) (q1.2 8 o 4) a1 g5 g9 _ _ e11) cl_CS_197 g5 rfl rfl rfl e_hx_CS_comes_26 rfl rfl rfl ⟨by decide, by decide⟩ ?_
    rintro _ _ ⟨rfl, rfl⟩
    show HM g D G q q10.2 29 [(0, vr 8 o), (1, vi a0), (2, vi a1)] [vi q10.1]
    refine h_blk 32 [(3, vi q10.1), (0, vr 8 o), (1, vi a0), (2, vi a1)] [vi (-1), vi q10.1] C f_hx_CS_comes_29_3 rfl ?_
    obtain ⟨c12, h⟩ := igd h
    refine h_icmp_ne (tgt := 39) C e_hx_CS_comes_32 (by decide) c12 (by decide) (fun c13 => ?_) (fun c13 => ?_)
    · have h := ifn c13 h
      refine h_blk 40 [(3, vi q10.1), (0, vr 8 o), (1, vi a0), (2, vi a1)] [vi q10.1] C f_hx_CS_comes_39_1 rfl ?_
      obtain ⟨q14, e15, h⟩ := obd h
      refine h_callS C Rm Y [vi q10.1] [] (hx_CS_unpacked l D B H0 G _ q10.1 _ _ e15) cl_CS_176 e_hx_CS_comes_40 rfl rfl rfl ⟨by decide, by decide⟩ ?_
      rintro _ _ ⟨rfl, rfl⟩
      show HM g D G q q14.2 43 [(3, vi q10.1), (0, vr 8 o), (1, vi a0), (2, vi a1)] [vi q14.1]
      exact h_iret C Rm E e_hx_CS_comes_43 (fin1 h)
    · have h := ifp c13 h
      refine h_blk 43 [(3, vi q10.1), (0, vr 8 o), (1, vi a0), (2, vi a1)] [vi (-1)] C f_hx_CS_comes_35_2 rfl ?_
      exact h_iret C Rm E e_hx_CS_comes_43 (fin1 h)
  · have h := ifp c4 h
    refine h_blk 10 [(0, vr 8 o), (1, vi a0), (2, vi a1)] [vi (-2)] C f_hx_CS_comes_8_1 rfl ?_
    exact h_iret C Rm E e_hx_CS_comes_10 (fin1 h)

def f_Mo_tens_4 : Nat → mA → Int → Int → Option (Int × mA)
  | 0, _, _, _ => none
  | n + 1, A, b1, b2 => (if g32 b2 then (if 5 ≤ b2 then (some (b1, A)) else (f_Mo_tens_4  n A (b1 * 10) (b2 + 1))) else none)
def f_Mo_tens (A : mA) (a0 : Int) : Option (Int × mA) := (f_Mo_tens_4  20 A 1 a0)
theorem f_x_Mo_tens_0_4 : mblkB b_Mo_tens [(0, .iconst 1, vi 1), (1, .istore_n 1, vi 0), (2, .iload_n 0, vi 0), (3, .istore_n 2, vi 0)] = true := by decide +kernel
theorem f_x_Mo_tens_4_2 : mblkB b_Mo_tens [(4, .iload_n 2, vi 0), (5, .iconst 5, vi 5)] = true := by decide +kernel
theorem e_x_Mo_tens_6 : decode b_Mo_tens 6 = .ok (.if_icmp .ge 14, 3) := by decide +kernel
theorem f_x_Mo_tens_20_1 : mblkB b_Mo_tens [(20, .iload_n 1, vi 0)] = true := by decide +kernel
theorem e_x_Mo_tens_21 : decode b_Mo_tens 21 = .ok (.ireturn, 1) := by decide +kernel
theorem f_x_Mo_tens_9_6 : mblkB b_Mo_tens [(9, .iload_n 1, vi 0), (10, .bipush 10, vi 10), (12, .imul, vi 0), (13, .istore_n 1, vi 0), (14, .iinc 2 1, vi 1), (17, .goto (-13), vi 4)] = true := by decide +kernel
set_option maxHeartbeats 4000000 in
set_option maxRecDepth 20000 in
theorem x_Mo_tens  : ∀ (l : Launch) (D : va_G) (B : Nat) (H0 : Heap) (ad : mAd) (A : mA) (a0 : Int) (hS : mStr D ad) (r9 : Int) (A9 : mA), f_Mo_tens  A a0 = some (r9, A9) → mMet l D B H0 ad y_Mo_tens b_Mo_tens 3 (some .int) 0 0 [vi a0] A (fun v A' => v = some (vi r9) ∧ A' = A9) := by
  intro l D B H0 ad A a0  hS r9 A9 h
  refine m_met (by decide) rfl (fun g w0 C Rm Y E => ?_)
  have hd_4 : ∀ (n : Nat) (A : mA) (b1 : Int) (b2 : Int) , f_Mo_tens_4  n A b1 b2 = some (r9, A9) → JM g D ad w0 A 4 [(1, vi b1), (2, vi b2)] [] := by
    intro n
    induction n with
    | zero => intro A b1 b2  h; cases h
    | succ n ih =>
      intro A b1 b2  h
      unfold f_Mo_tens_4 at h
      refine m_blk 6 [(1, vi b1), (2, vi b2)] [vi 5, vi b2] C f_x_Mo_tens_4_2 rfl ?_
      obtain ⟨c1, h⟩ := igd h
      refine m_icmp_ge (tgt := 20) C e_x_Mo_tens_6 (by decide) c1 (by decide) (fun c2 => ?_) (fun c2 => ?_)
      · have h := ifp c2 h
        refine m_blk 21 [(1, vi b1), (2, vi b2)] [vi b1] C f_x_Mo_tens_20_1 rfl ?_
        exact m_iret C Rm E e_x_Mo_tens_21 (fin1 h)
      · have h := ifn c2 h
        refine m_blk 4 [(2, vi (b2 + 1)), (1, vi (b1 * 10))] [] C f_x_Mo_tens_9_6 rfl ?_
        refine m_loc [(1, vi (b1 * 10)), (2, vi (b2 + 1))] ⟨rfl, rfl, trivial⟩ ?_
        exact ih A (b1 * 10) (b2 + 1)  h
  show JM g D ad w0 A 0 [(0, vi a0)] []
  unfold f_Mo_tens at h
  refine m_blk 4 [(2, vi a0), (1, vi 1), (0, vi a0)] [] C f_x_Mo_tens_0_4 rfl ?_
  refine m_loc [(1, vi 1), (2, vi a0)] ⟨rfl, rfl, trivial⟩ ?_
  exact hd_4 _ A 1 a0  h

def f_Mo_valueOf (A : mA) (a0 : Int) (a1 : Int) : Option (Int × mA) := (Option.bind (f_Mo_tens A a1) (fun q1 => (if g32 a0 then (if g32 q1.1 then (if q1.1 ≠ 0 then (if g32 (Int.tdiv a0 q1.1) then (some ((Int.tmod (Int.tdiv a0 q1.1) 10), q1.2)) else none) else none) else none) else none)))
theorem f_x_Mo_valueOf_0_2 : mblkB b_Mo_valueOf [(0, .iload_n 0, vi 0), (1, .iload_n 1, vi 0)] = true := by decide +kernel
theorem e_x_Mo_valueOf_2 : decode b_Mo_valueOf 2 = .ok (.invokestatic 257, 3) := by decide +kernel
theorem e_x_Mo_valueOf_5 : decode b_Mo_valueOf 5 = .ok (.idiv, 1) := by decide +kernel
theorem f_x_Mo_valueOf_6_1 : mblkB b_Mo_valueOf [(6, .bipush 10, vi 10)] = true := by decide +kernel
theorem e_x_Mo_valueOf_8 : decode b_Mo_valueOf 8 = .ok (.irem, 1) := by decide +kernel
theorem e_x_Mo_valueOf_9 : decode b_Mo_valueOf 9 = .ok (.ireturn, 1) := by decide +kernel
set_option maxHeartbeats 4000000 in
set_option maxRecDepth 20000 in
theorem x_Mo_valueOf  : ∀ (l : Launch) (D : va_G) (B : Nat) (H0 : Heap) (ad : mAd) (A : mA) (a0 : Int) (a1 : Int) (hS : mStr D ad) (r9 : Int) (A9 : mA), f_Mo_valueOf  A a0 a1 = some (r9, A9) → mMet l D B H0 ad y_Mo_valueOf b_Mo_valueOf 2 (some .int) 1 22 [vi a0, vi a1] A (fun v A' => v = some (vi r9) ∧ A' = A9) := by
  intro l D B H0 ad A a0 a1  hS r9 A9 h
  refine m_met (by decide) rfl (fun g w0 C Rm Y E => ?_)
  show JM g D ad w0 A 0 [(0, vi a0), (1, vi a1)] []
  unfold f_Mo_valueOf at h
  refine m_blk 2 [(0, vi a0), (1, vi a1)] [vi a1, vi a0] C f_x_Mo_valueOf_0_2 rfl ?_
  obtain ⟨q1, e2, h⟩ := obd h
  refine m_callS C Rm Y [vi a1] [vi a0] (x_Mo_tens l D B H0 ad _ a1 hS _ _ e2) cl_Mo_257 e_x_Mo_valueOf_2 rfl rfl rfl ⟨by decide, by decide⟩ ?_
  rintro _ _ ⟨rfl, rfl⟩
  show JM g D ad w0 q1.2 5 [(0, vi a0), (1, vi a1)] [vi q1.1, vi a0]
  obtain ⟨c3, h⟩ := igd h
  obtain ⟨c4, h⟩ := igd h
  obtain ⟨c5, h⟩ := igd h
  refine m_idiv C e_x_Mo_valueOf_5 c3 c4 c5 ?_
  refine m_blk 8 [(0, vi a0), (1, vi a1)] [vi 10, vi (Int.tdiv a0 q1.1)] C f_x_Mo_valueOf_6_1 rfl ?_
  obtain ⟨c6, h⟩ := igd h
  refine m_irem C e_x_Mo_valueOf_8 c6 (by decide) (by decide) ?_
  exact m_iret C Rm E e_x_Mo_valueOf_9 (fin1 h)

def f_Mo_with (A : mA) (a0 : Int) (a1 : Int) (a2 : Int) : Option (Int × mA) := (Option.bind (f_Mo_valueOf A a0 a1) (fun q1 => (Option.bind (f_Mo_tens q1.2 a1) (fun q3 => (some ((a0 + ((a2 - q1.1) * q3.1)), q3.2))))))
theorem f_x_Mo_with_0_4 : mblkB b_Mo_with [(0, .iload_n 0, vi 0), (1, .iload_n 2, vi 0), (2, .iload_n 0, vi 0), (3, .iload_n 1, vi 0)] = true := by decide +kernel
theorem e_x_Mo_with_4 : decode b_Mo_with 4 = .ok (.invokestatic 260, 3) := by decide +kernel
theorem f_x_Mo_with_7_2 : mblkB b_Mo_with [(7, .isub, vi 0), (8, .iload_n 1, vi 0)] = true := by decide +kernel
theorem e_x_Mo_with_9 : decode b_Mo_with 9 = .ok (.invokestatic 257, 3) := by decide +kernel
theorem f_x_Mo_with_12_2 : mblkB b_Mo_with [(12, .imul, vi 0), (13, .iadd, vi 0)] = true := by decide +kernel
theorem e_x_Mo_with_14 : decode b_Mo_with 14 = .ok (.ireturn, 1) := by decide +kernel
set_option maxHeartbeats 4000000 in
set_option maxRecDepth 20000 in
theorem x_Mo_with  : ∀ (l : Launch) (D : va_G) (B : Nat) (H0 : Heap) (ad : mAd) (A : mA) (a0 : Int) (a1 : Int) (a2 : Int) (hS : mStr D ad) (r9 : Int) (A9 : mA), f_Mo_with  A a0 a1 a2 = some (r9, A9) → mMet l D B H0 ad y_Mo_with b_Mo_with 3 (some .int) 2 43 [vi a0, vi a1, vi a2] A (fun v A' => v = some (vi r9) ∧ A' = A9) := by
  intro l D B H0 ad A a0 a1 a2  hS r9 A9 h
  refine m_met (by decide) rfl (fun g w0 C Rm Y E => ?_)
  show JM g D ad w0 A 0 [(0, vi a0), (1, vi a1), (2, vi a2)] []
  unfold f_Mo_with at h
  refine m_blk 4 [(0, vi a0), (1, vi a1), (2, vi a2)] [vi a1, vi a0, vi a2, vi a0] C f_x_Mo_with_0_4 rfl ?_
  obtain ⟨q1, e2, h⟩ := obd h
  refine m_callS C Rm Y [vi a0, vi a1] [vi a2, vi a0] (x_Mo_valueOf l D B H0 ad _ a0 a1 hS _ _ e2) cl_Mo_260 e_x_Mo_with_4 rfl rfl rfl ⟨by decide, by decide⟩ ?_
  rintro _ _ ⟨rfl, rfl⟩
  show JM g D ad w0 q1.2 7 [(0, vi a0), (1, vi a1), (2, vi a2)] [vi q1.1, vi a2, vi a0]
  refine m_blk 9 [(0, vi a0), (1, vi a1), (2, vi a2)] [vi a1, vi (a2 - q1.1), vi a0] C f_x_Mo_with_7_2 rfl ?_
  obtain ⟨q3, e4, h⟩ := obd h
  refine m_callS C Rm Y [vi a1] [vi (a2 - q1.1), vi a0] (x_Mo_tens l D B H0 ad _ a1 hS _ _ e4) cl_Mo_257 e_x_Mo_with_9 rfl rfl rfl ⟨by decide, by decide⟩ ?_
  rintro _ _ ⟨rfl, rfl⟩
  show JM g D ad w0 q3.2 12 [(0, vi a0), (1, vi a1), (2, vi a2)] [vi q3.1, vi (a2 - q1.1), vi a0]
  refine m_blk 14 [(0, vi a0), (1, vi a1), (2, vi a2)] [vi (a0 + ((a2 - q1.1) * q3.1))] C f_x_Mo_with_12_2 rfl ?_
  exact m_iret C Rm E e_x_Mo_with_14 (fin1 h)

def f_Mo_startState_4 : Nat → mA → Int → Int → Option (Int × mA)
  | 0, _, _, _ => none
  | n + 1, A, b1, b2 => (if g32 b2 then (if 6 ≤ b2 then (some (b1, A)) else (if (0 ≤ b2 ∧ b2 < ((6 : Nat) : Int)) then (f_Mo_startState_4  n A ((10 * b1) + (A 8 0 b2.toNat)) (b2 + 1)) else none)) else none)
def f_Mo_startState (A : mA)  : Option (Int × mA) := (f_Mo_startState_4  20 A 0 0)
theorem f_x_Mo_startState_0_4 : mblkB b_Mo_startState [(0, .iconst 0, vi 0), (1, .istore_n 1, vi 0), (2, .iconst 0, vi 0), (3, .istore_n 2, vi 0)] = true := by decide +kernel
theorem f_x_Mo_startState_4_2 : mblkB b_Mo_startState [(4, .iload_n 2, vi 0), (5, .bipush 6, vi 6)] = true := by decide +kernel
theorem e_x_Mo_startState_7 : decode b_Mo_startState 7 = .ok (.if_icmp .ge 21, 3) := by decide +kernel
theorem f_x_Mo_startState_28_1 : mblkB b_Mo_startState [(28, .iload_n 1, vi 0)] = true := by decide +kernel
theorem e_x_Mo_startState_29 : decode b_Mo_startState 29 = .ok (.ireturn, 1) := by decide +kernel
theorem f_x_Mo_startState_10_4 : mblkB b_Mo_startState [(10, .bipush 10, vi 10), (12, .iload_n 1, vi 0), (13, .imul, vi 0), (14, .aload_n 0, vi 0)] = true := by decide +kernel
theorem e_x_Mo_startState_15 : decode b_Mo_startState 15 = .ok (.getfield 60, 3) := by decide +kernel
theorem f_x_Mo_startState_18_1 : mblkB b_Mo_startState [(18, .iload_n 2, vi 0)] = true := by decide +kernel
theorem e_x_Mo_startState_19 : decode b_Mo_startState 19 = .ok (.iaload, 1) := by decide +kernel
theorem f_x_Mo_startState_20_4 : mblkB b_Mo_startState [(20, .iadd, vi 0), (21, .istore_n 1, vi 0), (22, .iinc 2 1, vi 1), (25, .goto (-21), vi 4)] = true := by decide +kernel
set_option maxHeartbeats 4000000 in
set_option maxRecDepth 20000 in
theorem x_Mo_startState  : ∀ (l : Launch) (D : va_G) (B : Nat) (H0 : Heap) (ad : mAd) (A : mA)  (hS : mStr D ad) (r9 : Int) (A9 : mA), f_Mo_startState  A  = some (r9, A9) → mMet l D B H0 ad y_Mo_startState b_Mo_startState 3 (some .int) 0 0 [vr 0 0] A (fun v A' => v = some (vi r9) ∧ A' = A9) := by
  intro l D B H0 ad A   hS r9 A9 h
  refine m_met (by decide) rfl (fun g w0 C Rm Y E => ?_)
  have hd_4 : ∀ (n : Nat) (A : mA) (b1 : Int) (b2 : Int) , f_Mo_startState_4  n A b1 b2 = some (r9, A9) → JM g D ad w0 A 4 [(0, vr 0 0), (1, vi b1), (2, vi b2)] [] := by
    intro n
    induction n with
    | zero => intro A b1 b2  h; cases h
    | succ n ih =>
      intro A b1 b2  h
      unfold f_Mo_startState_4 at h
      refine m_blk 7 [(0, vr 0 0), (1, vi b1), (2, vi b2)] [vi 6, vi b2] C f_x_Mo_startState_4_2 rfl ?_
      obtain ⟨c1, h⟩ := igd h
      refine m_icmp_ge (tgt := 28) C e_x_Mo_startState_7 (by decide) c1 (by decide) (fun c2 => ?_) (fun c2 => ?_)
      · have h := ifp c2 h
        refine m_blk 29 [(0, vr 0 0), (1, vi b1), (2, vi b2)] [vi b1] C f_x_Mo_startState_28_1 rfl ?_
        exact m_iret C Rm E e_x_Mo_startState_29 (fin1 h)
      · have h := ifn c2 h
        refine m_blk 15 [(0, vr 0 0), (1, vi b1), (2, vi b2)] [vr 0 0, vi (10 * b1)] C f_x_Mo_startState_10_4 rfl ?_
        refine m_getr C e_x_Mo_startState_15 fg_Mo_60 rfl (by decide) rfl ?_
        refine m_blk 19 [(0, vr 0 0), (1, vi b1), (2, vi b2)] [vi b2, vr 8 0, vi (10 * b1)] C f_x_Mo_startState_18_1 rfl ?_
        obtain ⟨c3, h⟩ := igd h
        refine m_iald C e_x_Mo_startState_19 rfl (by decide) (by decide) c3.1 c3.2 (A 8 0 b2.toNat) rfl ?_
        refine m_blk 4 [(2, vi (b2 + 1)), (1, vi ((10 * b1) + (A 8 0 b2.toNat))), (0, vr 0 0)] [] C f_x_Mo_startState_20_4 rfl ?_
        refine m_loc [(0, vr 0 0), (1, vi ((10 * b1) + (A 8 0 b2.toNat))), (2, vi (b2 + 1))] ⟨rfl, rfl, rfl, trivial⟩ ?_
        exact ih A ((10 * b1) + (A 8 0 b2.toNat)) (b2 + 1)  h
  show JM g D ad w0 A 0 [(0, vr 0 0)] []
  unfold f_Mo_startState at h
  refine m_blk 4 [(2, vi 0), (1, vi 0), (0, vr 0 0)] [] C f_x_Mo_startState_0_4 rfl ?_
  refine m_loc [(0, vr 0 0), (1, vi 0), (2, vi 0)] ⟨rfl, rfl, rfl, trivial⟩ ?_
  exact hd_4 _ A 0 0  h

def f_Mo_digit (A : mA) (a0 : Int) : Option (Int × mA) := (if g32 a0 then (if g32 (Int.tmod a0 10) then (if 0 ≤ (Int.tmod a0 10) then (some ((Int.tmod a0 10), A)) else (some (((Int.tmod a0 10) + 10), A))) else none) else none)
theorem f_x_Mo_digit_0_2 : mblkB b_Mo_digit [(0, .iload_n 0, vi 0), (1, .bipush 10, vi 10)] = true := by decide +kernel
theorem e_x_Mo_digit_3 : decode b_Mo_digit 3 = .ok (.irem, 1) := by decide +kernel
theorem f_x_Mo_digit_4_2 : mblkB b_Mo_digit [(4, .istore_n 1, vi 0), (5, .iload_n 1, vi 0)] = true := by decide +kernel
theorem e_x_Mo_digit_6 : decode b_Mo_digit 6 = .ok (.ifCond .ge 10, 3) := by decide +kernel
theorem f_x_Mo_digit_16_1 : mblkB b_Mo_digit [(16, .iload_n 1, vi 0)] = true := by decide +kernel
theorem e_x_Mo_digit_17 : decode b_Mo_digit 17 = .ok (.ireturn, 1) := by decide +kernel
theorem f_x_Mo_digit_9_4 : mblkB b_Mo_digit [(9, .iload_n 1, vi 0), (10, .bipush 10, vi 10), (12, .iadd, vi 0), (13, .goto 4, vi 17)] = true := by decide +kernel
set_option maxHeartbeats 4000000 in
set_option maxRecDepth 20000 in
theorem x_Mo_digit  : ∀ (l : Launch) (D : va_G) (B : Nat) (H0 : Heap) (ad : mAd) (A : mA) (a0 : Int) (hS : mStr D ad) (r9 : Int) (A9 : mA), f_Mo_digit  A a0 = some (r9, A9) → mMet l D B H0 ad y_Mo_digit b_Mo_digit 2 (some .int) 0 0 [vi a0] A (fun v A' => v = some (vi r9) ∧ A' = A9) := by
  intro l D B H0 ad A a0  hS r9 A9 h
  refine m_met (by decide) rfl (fun g w0 C Rm Y E => ?_)
  show JM g D ad w0 A 0 [(0, vi a0)] []
  unfold f_Mo_digit at h
  refine m_blk 3 [(0, vi a0)] [vi 10, vi a0] C f_x_Mo_digit_0_2 rfl ?_
  obtain ⟨c1, h⟩ := igd h
  refine m_irem C e_x_Mo_digit_3 c1 (by decide) (by decide) ?_
  refine m_blk 6 [(1, vi (Int.tmod a0 10)), (0, vi a0)] [vi (Int.tmod a0 10)] C f_x_Mo_digit_4_2 rfl ?_
  obtain ⟨c2, h⟩ := igd h
  refine m_if_ge (tgt := 16) C e_x_Mo_digit_6 (by decide) c2 (fun c3 => ?_) (fun c3 => ?_)
  · have h := ifp c3 h
    refine m_blk 17 [(1, vi (Int.tmod a0 10)), (0, vi a0)] [vi (Int.tmod a0 10)] C f_x_Mo_digit_16_1 rfl ?_
    exact m_iret C Rm E e_x_Mo_digit_17 (fin1 h)
  · have h := ifn c3 h
    refine m_blk 17 [(1, vi (Int.tmod a0 10)), (0, vi a0)] [vi ((Int.tmod a0 10) + 10)] C f_x_Mo_digit_9_4 rfl ?_
    exact m_iret C Rm E e_x_Mo_digit_17 (fin1 h)

def f_Mo_worthT (wt : mA → Int → Int → Int → Option (Int × mA)) (A : mA) (a0 : Int) (a1 : Int) (a2 : Int) : Option (Int × mA) := (if (0 ≤ a0 ∧ a0 < ((6 : Nat) : Int)) then (if (0 ≤ a1 ∧ a1 < ((120 : Nat) : Int)) then (if g32 (A 43 a0.toNat a1.toNat) then (if (A 43 a0.toNat a1.toNat) = 0 then (some ((nm32 (A 44 a0.toNat a1.toNat)), A)) else (if (A 43 a0.toNat a1.toNat) = 1 then (Option.bind (f_Mo_valueOf A a2 (A 44 a0.toNat a1.toNat)) (fun q30 => (some (q30.1, q30.2)))) else (Option.bind (wt A a0 (A 45 a0.toNat a1.toNat) a2) (fun q8 => (if (A 43 a0.toNat a1.toNat) = 2 then (some ((nm32 (-q8.1)), q8.2)) else (Option.bind (wt q8.2 a0 (q8.2 46 a0.toNat a1.toNat) a2) (fun q12 => (if (A 43 a0.toNat a1.toNat) = 43 then (some ((nm32 (q8.1 + q12.1)), q12.2)) else (if (A 43 a0.toNat a1.toNat) = 45 then (some ((nm32 (q8.1 - q12.1)), q12.2)) else (if (A 43 a0.toNat a1.toNat) = 42 then (some ((nm32 (q8.1 * q12.1)), q12.2)) else (if (A 43 a0.toNat a1.toNat) = 37 then (if g32 q12.1 then (if q12.1 = 0 then (some (0, q12.2)) else (if g32 q8.1 then (if q12.1 ≠ 0 then (some ((nm32 (Int.tmod q8.1 q12.1)), q12.2)) else none) else none)) else none) else (if (A 43 a0.toNat a1.toNat) = 60 then (if g32 q8.1 then if g32 q12.1 then (if q12.1 ≤ q8.1 then (some (0, q12.2)) else (some (1, q12.2))) else none else none) else (if g32 q8.1 then if g32 q12.1 then (if q8.1 = q12.1 then (some (1, q12.2)) else (some (0, q12.2))) else none else none))))))))))))) else none) else none) else none)
theorem f_x_Mo_worthT_0_1 : mblkB b_Mo_worth [(0, .aload_n 0, vi 0)] = true := by decide +kernel
theorem e_x_Mo_worthT_1 : decode b_Mo_worth 1 = .ok (.getfield 48, 3) := by decide +kernel
theorem f_x_Mo_worthT_4_1 : mblkB b_Mo_worth [(4, .iload_n 1, vi 0)] = true := by decide +kernel
theorem e_x_Mo_worthT_5 : decode b_Mo_worth 5 = .ok (.aaload, 1) := by decide +kernel
theorem f_x_Mo_worthT_6_1 : mblkB b_Mo_worth [(6, .iload_n 2, vi 0)] = true := by decide +kernel
theorem e_x_Mo_worthT_7 : decode b_Mo_worth 7 = .ok (.iaload, 1) := by decide +kernel
theorem f_x_Mo_worthT_8_2 : mblkB b_Mo_worth [(8, .istore 4, vi 0), (10, .iload 4, vi 0)] = true := by decide +kernel
theorem e_x_Mo_worthT_12 : decode b_Mo_worth 12 = .ok (.ifCond .ne 12, 3) := by decide +kernel
theorem f_x_Mo_worthT_24_2 : mblkB b_Mo_worth [(24, .iload 4, vi 0), (26, .iconst 1, vi 1)] = true := by decide +kernel
theorem e_x_Mo_worthT_27 : decode b_Mo_worth 27 = .ok (.if_icmp .ne 16, 3) := by decide +kernel
theorem f_x_Mo_worthT_43_3 : mblkB b_Mo_worth [(43, .aload_n 0, vi 0), (44, .iload_n 1, vi 0), (45, .aload_n 0, vi 0)] = true := by decide +kernel
theorem e_x_Mo_worthT_46 : decode b_Mo_worth 46 = .ok (.getfield 54, 3) := by decide +kernel
theorem f_x_Mo_worthT_49_1 : mblkB b_Mo_worth [(49, .iload_n 1, vi 0)] = true := by decide +kernel
theorem e_x_Mo_worthT_50 : decode b_Mo_worth 50 = .ok (.aaload, 1) := by decide +kernel
theorem f_x_Mo_worthT_51_1 : mblkB b_Mo_worth [(51, .iload_n 2, vi 0)] = true := by decide +kernel
theorem e_x_Mo_worthT_52 : decode b_Mo_worth 52 = .ok (.iaload, 1) := by decide +kernel
theorem f_x_Mo_worthT_53_1 : mblkB b_Mo_worth [(53, .iload_n 3, vi 0)] = true := by decide +kernel
theorem e_x_Mo_worthT_54 : decode b_Mo_worth 54 = .ok (.invokevirtual 263, 3) := by decide +kernel
theorem f_x_Mo_worthT_57_3 : mblkB b_Mo_worth [(57, .istore 5, vi 0), (59, .iload 4, vi 0), (61, .iconst 2, vi 2)] = true := by decide +kernel
theorem e_x_Mo_worthT_62 : decode b_Mo_worth 62 = .ok (.if_icmp .ne 7, 3) := by decide +kernel
theorem f_x_Mo_worthT_69_3 : mblkB b_Mo_worth [(69, .aload_n 0, vi 0), (70, .iload_n 1, vi 0), (71, .aload_n 0, vi 0)] = true := by decide +kernel
theorem e_x_Mo_worthT_72 : decode b_Mo_worth 72 = .ok (.getfield 57, 3) := by decide +kernel
theorem f_x_Mo_worthT_75_1 : mblkB b_Mo_worth [(75, .iload_n 1, vi 0)] = true := by decide +kernel
theorem e_x_Mo_worthT_76 : decode b_Mo_worth 76 = .ok (.aaload, 1) := by decide +kernel
theorem f_x_Mo_worthT_77_1 : mblkB b_Mo_worth [(77, .iload_n 2, vi 0)] = true := by decide +kernel
theorem e_x_Mo_worthT_78 : decode b_Mo_worth 78 = .ok (.iaload, 1) := by decide +kernel
theorem f_x_Mo_worthT_79_1 : mblkB b_Mo_worth [(79, .iload_n 3, vi 0)] = true := by decide +kernel
theorem e_x_Mo_worthT_80 : decode b_Mo_worth 80 = .ok (.invokevirtual 263, 3) := by decide +kernel
theorem f_x_Mo_worthT_83_3 : mblkB b_Mo_worth [(83, .istore 6, vi 0), (85, .iload 4, vi 0), (87, .bipush 43, vi 43)] = true := by decide +kernel
theorem e_x_Mo_worthT_89 : decode b_Mo_worth 89 = .ok (.if_icmp .ne 9, 3) := by decide +kernel
theorem f_x_Mo_worthT_98_2 : mblkB b_Mo_worth [(98, .iload 4, vi 0), (100, .bipush 45, vi 45)] = true := by decide +kernel
theorem e_x_Mo_worthT_102 : decode b_Mo_worth 102 = .ok (.if_icmp .ne 9, 3) := by decide +kernel
theorem f_x_Mo_worthT_111_2 : mblkB b_Mo_worth [(111, .iload 4, vi 0), (113, .bipush 42, vi 42)] = true := by decide +kernel
theorem e_x_Mo_worthT_115 : decode b_Mo_worth 115 = .ok (.if_icmp .ne 9, 3) := by decide +kernel
theorem f_x_Mo_worthT_124_2 : mblkB b_Mo_worth [(124, .iload 4, vi 0), (126, .bipush 37, vi 37)] = true := by decide +kernel
theorem e_x_Mo_worthT_128 : decode b_Mo_worth 128 = .ok (.if_icmp .ne 18, 3) := by decide +kernel
theorem f_x_Mo_worthT_146_2 : mblkB b_Mo_worth [(146, .iload 4, vi 0), (148, .bipush 60, vi 60)] = true := by decide +kernel
theorem e_x_Mo_worthT_150 : decode b_Mo_worth 150 = .ok (.if_icmp .ne 18, 3) := by decide +kernel
theorem f_x_Mo_worthT_168_2 : mblkB b_Mo_worth [(168, .iload 5, vi 0), (170, .iload 6, vi 0)] = true := by decide +kernel
theorem e_x_Mo_worthT_172 : decode b_Mo_worth 172 = .ok (.if_icmp .ne 7, 3) := by decide +kernel
theorem f_x_Mo_worthT_179_1 : mblkB b_Mo_worth [(179, .iconst 0, vi 0)] = true := by decide +kernel
theorem e_x_Mo_worthT_180 : decode b_Mo_worth 180 = .ok (.ireturn, 1) := by decide +kernel
theorem f_x_Mo_worthT_175_2 : mblkB b_Mo_worth [(175, .iconst 1, vi 1), (176, .goto 4, vi 180)] = true := by decide +kernel
theorem f_x_Mo_worthT_153_2 : mblkB b_Mo_worth [(153, .iload 5, vi 0), (155, .iload 6, vi 0)] = true := by decide +kernel
theorem e_x_Mo_worthT_157 : decode b_Mo_worth 157 = .ok (.if_icmp .ge 7, 3) := by decide +kernel
theorem f_x_Mo_worthT_164_2 : mblkB b_Mo_worth [(164, .iconst 0, vi 0), (165, .goto 15, vi 180)] = true := by decide +kernel
theorem f_x_Mo_worthT_160_2 : mblkB b_Mo_worth [(160, .iconst 1, vi 1), (161, .goto 19, vi 180)] = true := by decide +kernel
theorem f_x_Mo_worthT_131_1 : mblkB b_Mo_worth [(131, .iload 6, vi 0)] = true := by decide +kernel
theorem e_x_Mo_worthT_133 : decode b_Mo_worth 133 = .ok (.ifCond .ne 7, 3) := by decide +kernel
theorem f_x_Mo_worthT_140_2 : mblkB b_Mo_worth [(140, .iload 5, vi 0), (142, .iload 6, vi 0)] = true := by decide +kernel
theorem e_x_Mo_worthT_144 : decode b_Mo_worth 144 = .ok (.irem, 1) := by decide +kernel
theorem e_x_Mo_worthT_145 : decode b_Mo_worth 145 = .ok (.ireturn, 1) := by decide +kernel
theorem f_x_Mo_worthT_136_2 : mblkB b_Mo_worth [(136, .iconst 0, vi 0), (137, .goto 8, vi 145)] = true := by decide +kernel
theorem f_x_Mo_worthT_118_3 : mblkB b_Mo_worth [(118, .iload 5, vi 0), (120, .iload 6, vi 0), (122, .imul, vi 0)] = true := by decide +kernel
theorem e_x_Mo_worthT_123 : decode b_Mo_worth 123 = .ok (.ireturn, 1) := by decide +kernel
theorem f_x_Mo_worthT_105_3 : mblkB b_Mo_worth [(105, .iload 5, vi 0), (107, .iload 6, vi 0), (109, .isub, vi 0)] = true := by decide +kernel
theorem e_x_Mo_worthT_110 : decode b_Mo_worth 110 = .ok (.ireturn, 1) := by decide +kernel
theorem f_x_Mo_worthT_92_3 : mblkB b_Mo_worth [(92, .iload 5, vi 0), (94, .iload 6, vi 0), (96, .iadd, vi 0)] = true := by decide +kernel
theorem e_x_Mo_worthT_97 : decode b_Mo_worth 97 = .ok (.ireturn, 1) := by decide +kernel
theorem f_x_Mo_worthT_65_2 : mblkB b_Mo_worth [(65, .iload 5, vi 0), (67, .ineg, vi 0)] = true := by decide +kernel
theorem e_x_Mo_worthT_68 : decode b_Mo_worth 68 = .ok (.ireturn, 1) := by decide +kernel
theorem f_x_Mo_worthT_30_2 : mblkB b_Mo_worth [(30, .iload_n 3, vi 0), (31, .aload_n 0, vi 0)] = true := by decide +kernel
theorem e_x_Mo_worthT_32 : decode b_Mo_worth 32 = .ok (.getfield 51, 3) := by decide +kernel
theorem f_x_Mo_worthT_35_1 : mblkB b_Mo_worth [(35, .iload_n 1, vi 0)] = true := by decide +kernel
theorem e_x_Mo_worthT_36 : decode b_Mo_worth 36 = .ok (.aaload, 1) := by decide +kernel
theorem f_x_Mo_worthT_37_1 : mblkB b_Mo_worth [(37, .iload_n 2, vi 0)] = true := by decide +kernel
theorem e_x_Mo_worthT_38 : decode b_Mo_worth 38 = .ok (.iaload, 1) := by decide +kernel
theorem e_x_Mo_worthT_39 : decode b_Mo_worth 39 = .ok (.invokestatic 260, 3) := by decide +kernel
theorem e_x_Mo_worthT_42 : decode b_Mo_worth 42 = .ok (.ireturn, 1) := by decide +kernel
theorem f_x_Mo_worthT_15_1 : mblkB b_Mo_worth [(15, .aload_n 0, vi 0)] = true := by decide +kernel
theorem e_x_Mo_worthT_16 : decode b_Mo_worth 16 = .ok (.getfield 51, 3) := by decide +kernel
theorem f_x_Mo_worthT_19_1 : mblkB b_Mo_worth [(19, .iload_n 1, vi 0)] = true := by decide +kernel
theorem e_x_Mo_worthT_20 : decode b_Mo_worth 20 = .ok (.aaload, 1) := by decide +kernel
theorem f_x_Mo_worthT_21_1 : mblkB b_Mo_worth [(21, .iload_n 2, vi 0)] = true := by decide +kernel
theorem e_x_Mo_worthT_22 : decode b_Mo_worth 22 = .ok (.iaload, 1) := by decide +kernel
theorem e_x_Mo_worthT_23 : decode b_Mo_worth 23 = .ok (.ireturn, 1) := by decide +kernel
set_option maxHeartbeats 4000000 in
set_option maxRecDepth 20000 in
theorem x_Mo_worthT {wt : mA → Int → Int → Int → Option (Int × mA)} {fr lo : Nat} (hwt : ∀ (l : Launch) (D : va_G) (B : Nat) (H0 : Heap) (ad : mAd) (A : mA) (a0 : Int) (a1 : Int) (a2 : Int) (hS : mStr D ad) (r9 : Int) (A9 : mA), wt A a0 a1 a2 = some (r9, A9) → mMet l D B H0 ad y_Mo_worth b_Mo_worth 7 (some .int) fr lo [vr 0 0, vi a0, vi a1, vi a2] A (fun v A' => v = some (vi r9) ∧ A' = A9)) : ∀ (l : Launch) (D : va_G) (B : Nat) (H0 : Heap) (ad : mAd) (A : mA) (a0 : Int) (a1 : Int) (a2 : Int) (hS : mStr D ad) (r9 : Int) (A9 : mA), f_Mo_worthT wt A a0 a1 a2 = some (r9, A9) → mMet l D B H0 ad y_Mo_worth b_Mo_worth 7 (some .int) (fr + 6) (lo + 200) [vr 0 0, vi a0, vi a1, vi a2] A (fun v A' => v = some (vi r9) ∧ A' = A9) := by
  intro l D B H0 ad A a0 a1 a2  hS r9 A9 h
  refine m_met (by decide) rfl (fun g w0 C Rm Y E => ?_)
  show JM g D ad w0 A 0 [(0, vr 0 0), (1, vi a0), (2, vi a1), (3, vi a2)] []
  unfold f_Mo_worthT at h
  refine m_blk 1 [(0, vr 0 0), (1, vi a0), (2, vi a1), (3, vi a2)] [vr 0 0] C f_x_Mo_worthT_0_1 rfl ?_
  refine m_getr C e_x_Mo_worthT_1 fg_Mo_48 rfl (by decide) rfl ?_
  refine m_blk 5 [(0, vr 0 0), (1, vi a0), (2, vi a1), (3, vi a2)] [vi a0, vr 23 0] C f_x_Mo_worthT_4_1 rfl ?_
  obtain ⟨c1, h⟩ := igd h
  have k2 : a0.toNat < 6 := by omega
  refine m_aald C a0.toNat e_x_Mo_worthT_5 rfl rfl rfl (by decide) (by decide) c1.1 c1.2 (mz _ _) ?_
  refine m_blk 7 [(0, vr 0 0), (1, vi a0), (2, vi a1), (3, vi a2)] [vi a1, vr 43 a0.toNat] C f_x_Mo_worthT_6_1 rfl ?_
  obtain ⟨c3, h⟩ := igd h
  refine m_iald C e_x_Mo_worthT_7 rfl k2 (by decide) c3.1 c3.2 (A 43 a0.toNat a1.toNat) rfl ?_
  refine m_blk 12 [(4, vi (A 43 a0.toNat a1.toNat)), (0, vr 0 0), (1, vi a0), (2, vi a1), (3, vi a2)] [vi (A 43 a0.toNat a1.toNat)] C f_x_Mo_worthT_8_2 rfl ?_
  obtain ⟨c4, h⟩ := igd h
  refine m_if_ne (tgt := 24) C e_x_Mo_worthT_12 (by decide) c4 (fun c5 => ?_) (fun c5 => ?_)
  · have h := ifn c5 h
    refine m_blk 27 [(4, vi (A 43 a0.toNat a1.toNat)), (0, vr 0 0), (1, vi a0), (2, vi a1), (3, vi a2)] [vi 1, vi (A 43 a0.toNat a1.toNat)] C f_x_Mo_worthT_24_2 rfl ?_
    refine m_icmp_ne (tgt := 43) C e_x_Mo_worthT_27 (by decide) c4 (by decide) (fun c6 => ?_) (fun c6 => ?_)
    · have h := ifn c6 h
      refine m_blk 46 [(4, vi (A 43 a0.toNat a1.toNat)), (0, vr 0 0), (1, vi a0), (2, vi a1), (3, vi a2)] [vr 0 0, vi a0, vr 0 0] C f_x_Mo_worthT_43_3 rfl ?_
      refine m_getr C e_x_Mo_worthT_46 fg_Mo_54 rfl (by decide) rfl ?_
      refine m_blk 50 [(4, vi (A 43 a0.toNat a1.toNat)), (0, vr 0 0), (1, vi a0), (2, vi a1), (3, vi a2)] [vi a0, vr 25 0, vi a0, vr 0 0] C f_x_Mo_worthT_49_1 rfl ?_
      have k7 : a0.toNat < 6 := by omega
      refine m_aald C a0.toNat e_x_Mo_worthT_50 rfl rfl rfl (by decide) (by decide) c1.1 c1.2 (mz _ _) ?_
      refine m_blk 52 [(4, vi (A 43 a0.toNat a1.toNat)), (0, vr 0 0), (1, vi a0), (2, vi a1), (3, vi a2)] [vi a1, vr 45 a0.toNat, vi a0, vr 0 0] C f_x_Mo_worthT_51_1 rfl ?_
      refine m_iald C e_x_Mo_worthT_52 rfl k7 (by decide) c3.1 c3.2 (A 45 a0.toNat a1.toNat) rfl ?_
      refine m_blk 54 [(4, vi (A 43 a0.toNat a1.toNat)), (0, vr 0 0), (1, vi a0), (2, vi a1), (3, vi a2)] [vi a2, vi (A 45 a0.toNat a1.toNat), vi a0, vr 0 0] C f_x_Mo_worthT_53_1 rfl ?_
      obtain ⟨q8, e9, h⟩ := obd h
      refine m_callV C Rm Y [vi a0, vi (A 45 a0.toNat a1.toNat), vi a2] [] (hwt l D B H0 ad _ a0 (A 45 a0.toNat a1.toNat) a2 hS _ _ e9) cl_Mo_263 rfl (by decide) rfl rfl e_x_Mo_worthT_54 rfl rfl rfl ⟨by show _ ≤ ((fr + 6) : Nat); omega, by show _ ≤ ((lo + 200) : Nat); omega⟩ ?_
      rintro _ _ ⟨rfl, rfl⟩
      show JM g D ad w0 q8.2 57 [(4, vi (A 43 a0.toNat a1.toNat)), (0, vr 0 0), (1, vi a0), (2, vi a1), (3, vi a2)] [vi q8.1]
      refine m_blk 62 [(5, vi q8.1), (4, vi (A 43 a0.toNat a1.toNat)), (0, vr 0 0), (1, vi a0), (2, vi a1), (3, vi a2)] [vi 2, vi (A 43 a0.toNat a1.toNat)] C f_x_Mo_worthT_57_3 rfl ?_
      refine m_icmp_ne (tgt := 69) C e_x_Mo_worthT_62 (by decide) c4 (by decide) (fun c10 => ?_) (fun c10 => ?_)
      · have h := ifn c10 h
        refine m_blk 72 [(5, vi q8.1), (4, vi (A 43 a0.toNat a1.toNat)), (0, vr 0 0), (1, vi a0), (2, vi a1), (3, vi a2)] [vr 0 0, vi a0, vr 0 0] C f_x_Mo_worthT_69_3 rfl ?_
        refine m_getr C e_x_Mo_worthT_72 fg_Mo_57 rfl (by decide) rfl ?_
        refine m_blk 76 [(5, vi q8.1), (4, vi (A 43 a0.toNat a1.toNat)), (0, vr 0 0), (1, vi a0), (2, vi a1), (3, vi a2)] [vi a0, vr 26 0, vi a0, vr 0 0] C f_x_Mo_worthT_75_1 rfl ?_
        have k11 : a0.toNat < 6 := by omega
        refine m_aald C a0.toNat e_x_Mo_worthT_76 rfl rfl rfl (by decide) (by decide) c1.1 c1.2 (mz _ _) ?_
        refine m_blk 78 [(5, vi q8.1), (4, vi (A 43 a0.toNat a1.toNat)), (0, vr 0 0), (1, vi a0), (2, vi a1), (3, vi a2)] [vi a1, vr 46 a0.toNat, vi a0, vr 0 0] C f_x_Mo_worthT_77_1 rfl ?_
        refine m_iald C e_x_Mo_worthT_78 rfl k11 (by decide) c3.1 c3.2 (q8.2 46 a0.toNat a1.toNat) rfl ?_
        refine m_blk 80 [(5, vi q8.1), (4, vi (A 43 a0.toNat a1.toNat)), (0, vr 0 0), (1, vi a0), (2, vi a1), (3, vi a2)] [vi a2, vi (q8.2 46 a0.toNat a1.toNat), vi a0, vr 0 0] C f_x_Mo_worthT_79_1 rfl ?_
        obtain ⟨q12, e13, h⟩ := obd h
        refine m_callV C Rm Y [vi a0, vi (q8.2 46 a0.toNat a1.toNat), vi a2] [] (hwt l D B H0 ad _ a0 (q8.2 46 a0.toNat a1.toNat) a2 hS _ _ e13) cl_Mo_263 rfl (by decide) rfl rfl e_x_Mo_worthT_80 rfl rfl rfl ⟨by show _ ≤ ((fr + 6) : Nat); omega, by show _ ≤ ((lo + 200) : Nat); omega⟩ ?_
        rintro _ _ ⟨rfl, rfl⟩
        show JM g D ad w0 q12.2 83 [(5, vi q8.1), (4, vi (A 43 a0.toNat a1.toNat)), (0, vr 0 0), (1, vi a0), (2, vi a1), (3, vi a2)] [vi q12.1]
        refine m_blk 89 [(6, vi q12.1), (5, vi q8.1), (4, vi (A 43 a0.toNat a1.toNat)), (0, vr 0 0), (1, vi a0), (2, vi a1), (3, vi a2)] [vi 43, vi (A 43 a0.toNat a1.toNat)] C f_x_Mo_worthT_83_3 rfl ?_
        refine m_icmp_ne (tgt := 98) C e_x_Mo_worthT_89 (by decide) c4 (by decide) (fun c14 => ?_) (fun c14 => ?_)
        · have h := ifn c14 h
          refine m_blk 102 [(6, vi q12.1), (5, vi q8.1), (4, vi (A 43 a0.toNat a1.toNat)), (0, vr 0 0), (1, vi a0), (2, vi a1), (3, vi a2)] [vi 45, vi (A 43 a0.toNat a1.toNat)] C f_x_Mo_worthT_98_2 rfl ?_
          refine m_icmp_ne (tgt := 111) C e_x_Mo_worthT_102 (by decide) c4 (by decide) (fun c15 => ?_) (fun c15 => ?_)
          · have h := ifn c15 h
            refine m_blk 115 [(6, vi q12.1), (5, vi q8.1), (4, vi (A 43 a0.toNat a1.toNat)), (0, vr 0 0), (1, vi a0), (2, vi a1), (3, vi a2)] [vi 42, vi (A 43 a0.toNat a1.toNat)] C f_x_Mo_worthT_111_2 rfl ?_
            refine m_icmp_ne (tgt := 124) C e_x_Mo_worthT_115 (by decide) c4 (by decide) (fun c16 => ?_) (fun c16 => ?_)
            · have h := ifn c16 h
              refine m_blk 128 [(6, vi q12.1), (5, vi q8.1), (4, vi (A 43 a0.toNat a1.toNat)), (0, vr 0 0), (1, vi a0), (2, vi a1), (3, vi a2)] [vi 37, vi (A 43 a0.toNat a1.toNat)] C f_x_Mo_worthT_124_2 rfl ?_
              refine m_icmp_ne (tgt := 146) C e_x_Mo_worthT_128 (by decide) c4 (by decide) (fun c17 => ?_) (fun c17 => ?_)
              · have h := ifn c17 h
                refine m_blk 150 [(6, vi q12.1), (5, vi q8.1), (4, vi (A 43 a0.toNat a1.toNat)), (0, vr 0 0), (1, vi a0), (2, vi a1), (3, vi a2)] [vi 60, vi (A 43 a0.toNat a1.toNat)] C f_x_Mo_worthT_146_2 rfl ?_
                refine m_icmp_ne (tgt := 168) C e_x_Mo_worthT_150 (by decide) c4 (by decide) (fun c18 => ?_) (fun c18 => ?_)
                · have h := ifn c18 h
                  refine m_blk 172 [(6, vi q12.1), (5, vi q8.1), (4, vi (A 43 a0.toNat a1.toNat)), (0, vr 0 0), (1, vi a0), (2, vi a1), (3, vi a2)] [vi q12.1, vi q8.1] C f_x_Mo_worthT_168_2 rfl ?_
                  obtain ⟨c19, h⟩ := igd h
                  obtain ⟨c20, h⟩ := igd h
                  refine m_icmp_ne (tgt := 179) C e_x_Mo_worthT_172 (by decide) c19 c20 (fun c21 => ?_) (fun c21 => ?_)
                  · have h := ifn c21 h
                    refine m_blk 180 [(6, vi q12.1), (5, vi q8.1), (4, vi (A 43 a0.toNat a1.toNat)), (0, vr 0 0), (1, vi a0), (2, vi a1), (3, vi a2)] [vi 0] C f_x_Mo_worthT_179_1 rfl ?_
                    exact m_iret C Rm E e_x_Mo_worthT_180 (fin1 h)
                  · have h := ifp c21 h
                    refine m_blk 180 [(6, vi q12.1), (5, vi q8.1), (4, vi (A 43 a0.toNat a1.toNat)), (0, vr 0 0), (1, vi a0), (2, vi a1), (3, vi a2)] [vi 1] C f_x_Mo_worthT_175_2 rfl ?_
                    exact m_iret C Rm E e_x_Mo_worthT_180 (fin1 h)
                · have h := ifp c18 h
                  refine m_blk 157 [(6, vi q12.1), (5, vi q8.1), (4, vi (A 43 a0.toNat a1.toNat)), (0, vr 0 0), (1, vi a0), (2, vi a1), (3, vi a2)] [vi q12.1, vi q8.1] C f_x_Mo_worthT_153_2 rfl ?_
                  obtain ⟨c22, h⟩ := igd h
                  obtain ⟨c23, h⟩ := igd h
                  refine m_icmp_ge (tgt := 164) C e_x_Mo_worthT_157 (by decide) c22 c23 (fun c24 => ?_) (fun c24 => ?_)
                  · have h := ifp c24 h
                    refine m_blk 180 [(6, vi q12.1), (5, vi q8.1), (4, vi (A 43 a0.toNat a1.toNat)), (0, vr 0 0), (1, vi a0), (2, vi a1), (3, vi a2)] [vi 0] C f_x_Mo_worthT_164_2 rfl ?_
                    exact m_iret C Rm E e_x_Mo_worthT_180 (fin1 h)
                  · have h := ifn c24 h
                    refine m_blk 180 [(6, vi q12.1), (5, vi q8.1), (4, vi (A 43 a0.toNat a1.toNat)), (0, vr 0 0), (1, vi a0), (2, vi a1), (3, vi a2)] [vi 1] C f_x_Mo_worthT_160_2 rfl ?_
                    exact m_iret C Rm E e_x_Mo_worthT_180 (fin1 h)
              · have h := ifp c17 h
                refine m_blk 133 [(6, vi q12.1), (5, vi q8.1), (4, vi (A 43 a0.toNat a1.toNat)), (0, vr 0 0), (1, vi a0), (2, vi a1), (3, vi a2)] [vi q12.1] C f_x_Mo_worthT_131_1 rfl ?_
                obtain ⟨c25, h⟩ := igd h
                refine m_if_ne (tgt := 140) C e_x_Mo_worthT_133 (by decide) c25 (fun c26 => ?_) (fun c26 => ?_)
                · have h := ifn c26 h
                  refine m_blk 144 [(6, vi q12.1), (5, vi q8.1), (4, vi (A 43 a0.toNat a1.toNat)), (0, vr 0 0), (1, vi a0), (2, vi a1), (3, vi a2)] [vi q12.1, vi q8.1] C f_x_Mo_worthT_140_2 rfl ?_
                  obtain ⟨c27, h⟩ := igd h
                  obtain ⟨c28, h⟩ := igd h
                  refine m_irem C e_x_Mo_worthT_144 c27 c25 c28 ?_
                  refine m_nm ?_
                  exact m_iret C Rm E e_x_Mo_worthT_145 (fin1 h)
                · have h := ifp c26 h
                  refine m_blk 145 [(6, vi q12.1), (5, vi q8.1), (4, vi (A 43 a0.toNat a1.toNat)), (0, vr 0 0), (1, vi a0), (2, vi a1), (3, vi a2)] [vi 0] C f_x_Mo_worthT_136_2 rfl ?_
                  exact m_iret C Rm E e_x_Mo_worthT_145 (fin1 h)
            · have h := ifp c16 h
              refine m_blk 123 [(6, vi q12.1), (5, vi q8.1), (4, vi (A 43 a0.toNat a1.toNat)), (0, vr 0 0), (1, vi a0), (2, vi a1), (3, vi a2)] [vi (q8.1 * q12.1)] C f_x_Mo_worthT_118_3 rfl ?_
              refine m_nm ?_
              exact m_iret C Rm E e_x_Mo_worthT_123 (fin1 h)
          · have h := ifp c15 h
            refine m_blk 110 [(6, vi q12.1), (5, vi q8.1), (4, vi (A 43 a0.toNat a1.toNat)), (0, vr 0 0), (1, vi a0), (2, vi a1), (3, vi a2)] [vi (q8.1 - q12.1)] C f_x_Mo_worthT_105_3 rfl ?_
            refine m_nm ?_
            exact m_iret C Rm E e_x_Mo_worthT_110 (fin1 h)
        · have h := ifp c14 h
          refine m_blk 97 [(6, vi q12.1), (5, vi q8.1), (4, vi (A 43 a0.toNat a1.toNat)), (0, vr 0 0), (1, vi a0), (2, vi a1), (3, vi a2)] [vi (q8.1 + q12.1)] C f_x_Mo_worthT_92_3 rfl ?_
          refine m_nm ?_
          exact m_iret C Rm E e_x_Mo_worthT_97 (fin1 h)
      · have h := ifp c10 h
        refine m_blk 68 [(5, vi q8.1), (4, vi (A 43 a0.toNat a1.toNat)), (0, vr 0 0), (1, vi a0), (2, vi a1), (3, vi a2)] [vi (-q8.1)] C f_x_Mo_worthT_65_2 rfl ?_
        refine m_nm ?_
        exact m_iret C Rm E e_x_Mo_worthT_68 (fin1 h)
    · have h := ifp c6 h
      refine m_blk 32 [(4, vi (A 43 a0.toNat a1.toNat)), (0, vr 0 0), (1, vi a0), (2, vi a1), (3, vi a2)] [vr 0 0, vi a2] C f_x_Mo_worthT_30_2 rfl ?_
      refine m_getr C e_x_Mo_worthT_32 fg_Mo_51 rfl (by decide) rfl ?_
      refine m_blk 36 [(4, vi (A 43 a0.toNat a1.toNat)), (0, vr 0 0), (1, vi a0), (2, vi a1), (3, vi a2)] [vi a0, vr 24 0, vi a2] C f_x_Mo_worthT_35_1 rfl ?_
      have k29 : a0.toNat < 6 := by omega
      refine m_aald C a0.toNat e_x_Mo_worthT_36 rfl rfl rfl (by decide) (by decide) c1.1 c1.2 (mz _ _) ?_
      refine m_blk 38 [(4, vi (A 43 a0.toNat a1.toNat)), (0, vr 0 0), (1, vi a0), (2, vi a1), (3, vi a2)] [vi a1, vr 44 a0.toNat, vi a2] C f_x_Mo_worthT_37_1 rfl ?_
      refine m_iald C e_x_Mo_worthT_38 rfl k29 (by decide) c3.1 c3.2 (A 44 a0.toNat a1.toNat) rfl ?_
      obtain ⟨q30, e31, h⟩ := obd h
      refine m_callS C Rm Y [vi a2, vi (A 44 a0.toNat a1.toNat)] [] (x_Mo_valueOf l D B H0 ad _ a2 (A 44 a0.toNat a1.toNat) hS _ _ e31) cl_Mo_260 e_x_Mo_worthT_39 rfl rfl rfl ⟨by show _ ≤ ((fr + 6) : Nat); omega, by show _ ≤ ((lo + 200) : Nat); omega⟩ ?_
      rintro _ _ ⟨rfl, rfl⟩
      show JM g D ad w0 q30.2 42 [(4, vi (A 43 a0.toNat a1.toNat)), (0, vr 0 0), (1, vi a0), (2, vi a1), (3, vi a2)] [vi q30.1]
      exact m_iret C Rm E e_x_Mo_worthT_42 (fin1 h)
  · have h := ifp c5 h
    refine m_blk 16 [(4, vi (A 43 a0.toNat a1.toNat)), (0, vr 0 0), (1, vi a0), (2, vi a1), (3, vi a2)] [vr 0 0] C f_x_Mo_worthT_15_1 rfl ?_
    refine m_getr C e_x_Mo_worthT_16 fg_Mo_51 rfl (by decide) rfl ?_
    refine m_blk 20 [(4, vi (A 43 a0.toNat a1.toNat)), (0, vr 0 0), (1, vi a0), (2, vi a1), (3, vi a2)] [vi a0, vr 24 0] C f_x_Mo_worthT_19_1 rfl ?_
    have k32 : a0.toNat < 6 := by omega
    refine m_aald C a0.toNat e_x_Mo_worthT_20 rfl rfl rfl (by decide) (by decide) c1.1 c1.2 (mz _ _) ?_
    refine m_blk 22 [(4, vi (A 43 a0.toNat a1.toNat)), (0, vr 0 0), (1, vi a0), (2, vi a1), (3, vi a2)] [vi a1, vr 44 a0.toNat] C f_x_Mo_worthT_21_1 rfl ?_
    refine m_iald C e_x_Mo_worthT_22 rfl k32 (by decide) c3.1 c3.2 (A 44 a0.toNat a1.toNat) rfl ?_
    refine m_nm ?_
    exact m_iret C Rm E e_x_Mo_worthT_23 (fin1 h)

def f_Mo_worthN : Nat → mA → Int → Int → Int → Option (Int × mA)
  | 0, _, _, _, _ => none
  | n + 1, A, a0, a1, a2 => f_Mo_worthT (f_Mo_worthN n) A a0 a1 a2
theorem x_Mo_worthN : ∀ n : Nat, ∀ (l : Launch) (D : va_G) (B : Nat) (H0 : Heap) (ad : mAd) (A : mA) (a0 : Int) (a1 : Int) (a2 : Int) (hS : mStr D ad) (r9 : Int) (A9 : mA), f_Mo_worthN n A a0 a1 a2 = some (r9, A9) → mMet l D B H0 ad y_Mo_worth b_Mo_worth 7 (some .int) (6 * n) (200 * n) [vr 0 0, vi a0, vi a1, vi a2] A (fun v A' => v = some (vi r9) ∧ A' = A9) := by
  intro n
  induction n with
  | zero => intro l D B H0 ad A a0 a1 a2 hS r9 A9 h; cases h
  | succ n ih =>
    intro l D B H0 ad A a0 a1 a2 hS r9 A9 h
    have k := x_Mo_worthT ih l D B H0 ad A a0 a1 a2 hS r9 A9 h
    have e1 : 6 * (n + 1) = 6 * n + 6 := by omega
    have e2 : 200 * (n + 1) = 200 * n + 200 := by omega
    rw [e1, e2]
    exact k
def f_Mo_come_7 (cst : mA → Int → Int → Int → Option (Int × mA)) : Nat → mA → Int → Int → Int → Int → Option (Int × mA)
  | 0, _, _, _, _, _ => none
  | n + 1, A, b1, b3, b5, b6 => (if g32 b6 then if g32 b3 then (if b3 ≤ b6 then (some (b5, A)) else (if g32 b5 then (if b5 = (-1) then (some (b5, A)) else (Option.bind (cst A b1 b6 b5) (fun q6 => (if (0 ≤ b1 ∧ b1 < ((6 : Nat) : Int)) then (if (0 ≤ b6 ∧ b6 < ((16 : Nat) : Int)) then (f_Mo_come_7 cst n q6.2 b1 b3 q6.1 (q6.2 37 b1.toNat b6.toNat)) else none) else none)))) else none)) else none else none)
def f_Mo_come (cst : mA → Int → Int → Int → Option (Int × mA)) (A : mA) (a0 : Int) (a1 : Int) (a2 : Int) (a3 : Int) : Option (Int × mA) := (f_Mo_come_7 cst 20 A a0 a2 a3 a1)
theorem f_x_Mo_come_0_4 : mblkB b_Mo_come [(0, .iload 4, vi 0), (2, .istore 5, vi 0), (4, .iload_n 2, vi 0), (5, .istore 6, vi 0)] = true := by decide +kernel
theorem f_x_Mo_come_7_2 : mblkB b_Mo_come [(7, .iload 6, vi 0), (9, .iload_n 3, vi 0)] = true := by decide +kernel
theorem e_x_Mo_come_10 : decode b_Mo_come 10 = .ok (.if_icmp .ge 34, 3) := by decide +kernel
theorem f_x_Mo_come_44_1 : mblkB b_Mo_come [(44, .iload 5, vi 0)] = true := by decide +kernel
theorem e_x_Mo_come_46 : decode b_Mo_come 46 = .ok (.ireturn, 1) := by decide +kernel
theorem f_x_Mo_come_13_2 : mblkB b_Mo_come [(13, .iload 5, vi 0), (15, .iconst (-1), vi (-1))] = true := by decide +kernel
theorem e_x_Mo_come_16 : decode b_Mo_come 16 = .ok (.if_icmp .eq 28, 3) := by decide +kernel
theorem f_x_Mo_come_19_4 : mblkB b_Mo_come [(19, .aload_n 0, vi 0), (20, .iload_n 1, vi 0), (21, .iload 6, vi 0), (23, .iload 5, vi 0)] = true := by decide +kernel
theorem e_x_Mo_come_25 : decode b_Mo_come 25 = .ok (.invokevirtual 400, 3) := by decide +kernel
theorem f_x_Mo_come_28_2 : mblkB b_Mo_come [(28, .istore 5, vi 0), (30, .aload_n 0, vi 0)] = true := by decide +kernel
theorem e_x_Mo_come_31 : decode b_Mo_come 31 = .ok (.getfield 30, 3) := by decide +kernel
theorem f_x_Mo_come_34_1 : mblkB b_Mo_come [(34, .iload_n 1, vi 0)] = true := by decide +kernel
theorem e_x_Mo_come_35 : decode b_Mo_come 35 = .ok (.aaload, 1) := by decide +kernel
theorem f_x_Mo_come_36_1 : mblkB b_Mo_come [(36, .iload 6, vi 0)] = true := by decide +kernel
theorem e_x_Mo_come_38 : decode b_Mo_come 38 = .ok (.iaload, 1) := by decide +kernel
theorem f_x_Mo_come_39_2 : mblkB b_Mo_come [(39, .istore 6, vi 0), (41, .goto (-34), vi 7)] = true := by decide +kernel
set_option maxHeartbeats 4000000 in
set_option maxRecDepth 20000 in
theorem x_Mo_come {cst : mA → Int → Int → Int → Option (Int × mA)} {fr lo : Nat} (hcst : ∀ (l : Launch) (D : va_G) (B : Nat) (H0 : Heap) (ad : mAd) (A : mA) (a0 : Int) (a1 : Int) (a2 : Int) (hS : mStr D ad) (r9 : Int) (A9 : mA), cst A a0 a1 a2 = some (r9, A9) → mMet l D B H0 ad y_Mo_comeStep b_Mo_comeStep 10 (some .int) (fr + 740) (lo + 24400) [vr 0 0, vi a0, vi a1, vi a2] A (fun v A' => v = some (vi r9) ∧ A' = A9)) : ∀ (l : Launch) (D : va_G) (B : Nat) (H0 : Heap) (ad : mAd) (A : mA) (a0 : Int) (a1 : Int) (a2 : Int) (a3 : Int) (hS : mStr D ad) (r9 : Int) (A9 : mA), f_Mo_come cst A a0 a1 a2 a3 = some (r9, A9) → mMet l D B H0 ad y_Mo_come b_Mo_come 7 (some .int) (fr + 742) (lo + 24460) [vr 0 0, vi a0, vi a1, vi a2, vi a3] A (fun v A' => v = some (vi r9) ∧ A' = A9) := by
  intro l D B H0 ad A a0 a1 a2 a3  hS r9 A9 h
  refine m_met (by decide) rfl (fun g w0 C Rm Y E => ?_)
  have hd_7 : ∀ (n : Nat) (A : mA) (b1 : Int) (b3 : Int) (b5 : Int) (b6 : Int) , f_Mo_come_7 cst n A b1 b3 b5 b6 = some (r9, A9) → JM g D ad w0 A 7 [(0, vr 0 0), (1, vi b1), (3, vi b3), (5, vi b5), (6, vi b6)] [] := by
    intro n
    induction n with
    | zero => intro A b1 b3 b5 b6  h; cases h
    | succ n ih =>
      intro A b1 b3 b5 b6  h
      unfold f_Mo_come_7 at h
      refine m_blk 10 [(0, vr 0 0), (1, vi b1), (3, vi b3), (5, vi b5), (6, vi b6)] [vi b3, vi b6] C f_x_Mo_come_7_2 rfl ?_
      obtain ⟨c1, h⟩ := igd h
      obtain ⟨c2, h⟩ := igd h
      refine m_icmp_ge (tgt := 44) C e_x_Mo_come_10 (by decide) c1 c2 (fun c3 => ?_) (fun c3 => ?_)
      · have h := ifp c3 h
        refine m_blk 46 [(0, vr 0 0), (1, vi b1), (3, vi b3), (5, vi b5), (6, vi b6)] [vi b5] C f_x_Mo_come_44_1 rfl ?_
        exact m_iret C Rm E e_x_Mo_come_46 (fin1 h)
      · have h := ifn c3 h
        refine m_blk 16 [(0, vr 0 0), (1, vi b1), (3, vi b3), (5, vi b5), (6, vi b6)] [vi (-1), vi b5] C f_x_Mo_come_13_2 rfl ?_
        obtain ⟨c4, h⟩ := igd h
        refine m_icmp_eq (tgt := 44) C e_x_Mo_come_16 (by decide) c4 (by decide) (fun c5 => ?_) (fun c5 => ?_)
        · have h := ifp c5 h
          refine m_blk 46 [(0, vr 0 0), (1, vi b1), (3, vi b3), (5, vi b5), (6, vi b6)] [vi b5] C f_x_Mo_come_44_1 rfl ?_
          exact m_iret C Rm E e_x_Mo_come_46 (fin1 h)
        · have h := ifn c5 h
          refine m_blk 25 [(0, vr 0 0), (1, vi b1), (3, vi b3), (5, vi b5), (6, vi b6)] [vi b5, vi b6, vi b1, vr 0 0] C f_x_Mo_come_19_4 rfl ?_
          obtain ⟨q6, e7, h⟩ := obd h
          refine m_callV C Rm Y [vi b1, vi b6, vi b5] [] (hcst l D B H0 ad _ b1 b6 b5 hS _ _ e7) cl_Mo_400 rfl (by decide) rfl rfl e_x_Mo_come_25 rfl rfl rfl ⟨by show _ ≤ ((fr + 742) : Nat); omega, by show _ ≤ ((lo + 24460) : Nat); omega⟩ ?_
          rintro _ _ ⟨rfl, rfl⟩
          show JM g D ad w0 q6.2 28 [(0, vr 0 0), (1, vi b1), (3, vi b3), (5, vi b5), (6, vi b6)] [vi q6.1]
          refine m_blk 31 [(5, vi q6.1), (0, vr 0 0), (1, vi b1), (3, vi b3), (6, vi b6)] [vr 0 0] C f_x_Mo_come_28_2 rfl ?_
          refine m_getr C e_x_Mo_come_31 fg_Mo_30 rfl (by decide) rfl ?_
          refine m_blk 35 [(5, vi q6.1), (0, vr 0 0), (1, vi b1), (3, vi b3), (6, vi b6)] [vi b1, vr 17 0] C f_x_Mo_come_34_1 rfl ?_
          obtain ⟨c8, h⟩ := igd h
          have k9 : b1.toNat < 6 := by omega
          refine m_aald C b1.toNat e_x_Mo_come_35 rfl rfl rfl (by decide) (by decide) c8.1 c8.2 (mz _ _) ?_
          refine m_blk 38 [(5, vi q6.1), (0, vr 0 0), (1, vi b1), (3, vi b3), (6, vi b6)] [vi b6, vr 37 b1.toNat] C f_x_Mo_come_36_1 rfl ?_
          obtain ⟨c10, h⟩ := igd h
          refine m_iald C e_x_Mo_come_38 rfl k9 (by decide) c10.1 c10.2 (q6.2 37 b1.toNat b6.toNat) rfl ?_
          refine m_blk 7 [(6, vi (q6.2 37 b1.toNat b6.toNat)), (5, vi q6.1), (0, vr 0 0), (1, vi b1), (3, vi b3)] [] C f_x_Mo_come_39_2 rfl ?_
          refine m_loc [(0, vr 0 0), (1, vi b1), (3, vi b3), (5, vi q6.1), (6, vi (q6.2 37 b1.toNat b6.toNat))] ⟨rfl, rfl, rfl, rfl, rfl, trivial⟩ ?_
          exact ih q6.2 b1 b3 q6.1 (q6.2 37 b1.toNat b6.toNat)  h
  show JM g D ad w0 A 0 [(0, vr 0 0), (1, vi a0), (2, vi a1), (3, vi a2), (4, vi a3)] []
  unfold f_Mo_come at h
  refine m_blk 7 [(6, vi a1), (5, vi a3), (0, vr 0 0), (1, vi a0), (2, vi a1), (3, vi a2), (4, vi a3)] [] C f_x_Mo_come_0_4 rfl ?_
  refine m_loc [(0, vr 0 0), (1, vi a0), (3, vi a2), (5, vi a3), (6, vi a1)] ⟨rfl, rfl, rfl, rfl, rfl, trivial⟩ ?_
  exact hd_7 _ A a0 a2 a3 a1  h

def f_Mo_comeStepT_257 (cst : mA → Int → Int → Int → Option (Int × mA)) : Nat → mA → Int → Int → Int → Int → Option (Int × mA)
  | 0, _, _, _, _, _ => none
  | n + 1, A, b1, b2, b7, b8 => (if (0 ≤ b1 ∧ b1 < ((6 : Nat) : Int)) then (if (0 ≤ b2 ∧ b2 < ((16 : Nat) : Int)) then (if g32 b8 then if g32 (A 36 b1.toNat b2.toNat) then (if (A 36 b1.toNat b2.toNat) ≤ b8 then (some (b7, A)) else (if g32 b7 then (if b7 = (-1) then (some (b7, A)) else (Option.bind (f_Mo_come cst A b1 (b2 + 1) (A 37 b1.toNat b2.toNat) b7) (fun q10 => (f_Mo_comeStepT_257 cst n q10.2 b1 b2 q10.1 (b8 + 1))))) else none)) else none else none) else none) else none)
def f_Mo_comeStepT_118 (cst : mA → Int → Int → Int → Option (Int × mA)) : Nat → mA → Int → Int → Int → Int → Int → Option (Int × mA)
  | 0, _, _, _, _, _, _ => none
  | n + 1, A, b1, b2, b3, b5, b6 => (if (0 ≤ b1 ∧ b1 < ((6 : Nat) : Int)) then (if (0 ≤ b6 ∧ b6 < ((120 : Nat) : Int)) then (if g32 b5 then if g32 (A 42 b1.toNat b6.toNat) then (if b5 < (A 42 b1.toNat b6.toNat) then (if (0 ≤ b2 ∧ b2 < ((16 : Nat) : Int)) then (Option.bind (f_Mo_with A b3 (A 35 b1.toNat b2.toNat) (A 41 b1.toNat b6.toNat)) (fun q21 => (some (q21.1, q21.2)))) else none) else (f_Mo_comeStepT_118 cst n A b1 b2 b3 (b5 - (A 42 b1.toNat b6.toNat)) (b6 + 1))) else none else none) else none) else none)
def f_Mo_comeStepT (cst : mA → Int → Int → Int → Option (Int × mA)) (A : mA) (a0 : Int) (a1 : Int) (a2 : Int) : Option (Int × mA) := (if (0 ≤ a0 ∧ a0 < ((6 : Nat) : Int)) then (if (0 ≤ a1 ∧ a1 < ((16 : Nat) : Int)) then (if g32 (A 39 a0.toNat a1.toNat) then (if (A 39 a0.toNat a1.toNat) = (-1) then (if g32 (A 34 a0.toNat a1.toNat) then (if (A 34 a0.toNat a1.toNat) = 0 then (Option.bind (f_Mo_lotsAll (mu A 0 0 36 (((A 0 0 36) * 1103515245) + 12345)) a0 a1) (fun q78 => (if g32 q78.1 then (if q78.1 ≠ 0 then (f_Mo_comeStepT_118 cst 20 q78.2 a0 a1 a2 (Int.tmod (iUsh (((A 0 0 36) * 1103515245) + 12345) 9) q78.1) (q78.2 40 a0.toNat a1.toNat)) else none) else none))) else if (A 34 a0.toNat a1.toNat) = 1 then (Option.bind (f_Mo_digit A 0) (fun q85 => (Option.bind (f_Mo_with q85.2 a2 (A 35 a0.toNat a1.toNat) q85.1) (fun q87 => (some (q87.1, q87.2)))))) else if (A 34 a0.toNat a1.toNat) = 2 then (some ((-1), A)) else if (A 34 a0.toNat a1.toNat) = 3 then (Option.bind (f_Mo_come cst A a0 (A 38 a0.toNat a1.toNat) (A 37 a0.toNat a1.toNat) a2) (fun q95 => (some (q95.1, q95.2)))) else if (A 34 a0.toNat a1.toNat) = 4 then (f_Mo_comeStepT_257 cst 20 A a0 a1 a2 0) else (if (0 ≤ (A 36 a0.toNat a1.toNat) ∧ (A 36 a0.toNat a1.toNat) < ((6 : Nat) : Int)) then (Option.bind (f_Mo_digit A 0) (fun q100 => (Option.bind (f_Mo_with q100.2 0 0 q100.1) (fun q102 => (Option.bind (f_Mo_come cst q102.2 (A 36 a0.toNat a1.toNat) 0 (A 5 0 ((A 36 a0.toNat a1.toNat).toNat)) q102.1) (fun q104 => (if g32 q104.1 then (if q104.1 = (-1) then (some ((-1), q104.2)) else (Option.bind (f_Mo_valueOf q104.2 q104.1 0) (fun q109 => (Option.bind (f_Mo_with q109.2 a2 (q104.2 35 a0.toNat a1.toNat) q109.1) (fun q111 => (some (q111.1, q111.2))))))) else none))))))) else none)) else none) else (Option.bind (f_Mo_worthN 121 A a0 (A 39 a0.toNat a1.toNat) a2) (fun q30 => (if g32 (q30.2 34 a0.toNat a1.toNat) then (if (q30.2 34 a0.toNat a1.toNat) = 0 then (Option.bind (f_Mo_lotsAll (mu q30.2 0 0 36 (((q30.2 0 0 36) * 1103515245) + 12345)) a0 a1) (fun q35 => (if g32 q35.1 then (if q35.1 ≠ 0 then (f_Mo_comeStepT_118 cst 20 q35.2 a0 a1 a2 (Int.tmod (iUsh (((q30.2 0 0 36) * 1103515245) + 12345) 9) q35.1) (q35.2 40 a0.toNat a1.toNat)) else none) else none))) else if (q30.2 34 a0.toNat a1.toNat) = 1 then (Option.bind (f_Mo_digit q30.2 q30.1) (fun q42 => (Option.bind (f_Mo_with q42.2 a2 (q30.2 35 a0.toNat a1.toNat) q42.1) (fun q44 => (some (q44.1, q44.2)))))) else if (q30.2 34 a0.toNat a1.toNat) = 2 then (if g32 q30.1 then (if q30.1 = 0 then (some ((-1), q30.2)) else (some (a2, q30.2))) else none) else if (q30.2 34 a0.toNat a1.toNat) = 3 then (if g32 q30.1 then (if q30.1 = 0 then (Option.bind (f_Mo_come cst q30.2 a0 (q30.2 38 a0.toNat a1.toNat) (q30.2 37 a0.toNat a1.toNat) a2) (fun q54 => (some (q54.1, q54.2)))) else (Option.bind (f_Mo_come cst q30.2 a0 (a1 + 1) (q30.2 38 a0.toNat a1.toNat) a2) (fun q57 => (some (q57.1, q57.2))))) else none) else if (q30.2 34 a0.toNat a1.toNat) = 4 then (f_Mo_comeStepT_257 cst 20 q30.2 a0 a1 a2 0) else (if (0 ≤ (q30.2 36 a0.toNat a1.toNat) ∧ (q30.2 36 a0.toNat a1.toNat) < ((6 : Nat) : Int)) then (Option.bind (f_Mo_digit q30.2 q30.1) (fun q62 => (Option.bind (f_Mo_with q62.2 0 0 q62.1) (fun q64 => (Option.bind (f_Mo_come cst q64.2 (q30.2 36 a0.toNat a1.toNat) 0 (q30.2 5 0 ((q30.2 36 a0.toNat a1.toNat).toNat)) q64.1) (fun q66 => (if g32 q66.1 then (if q66.1 = (-1) then (some ((-1), q66.2)) else (Option.bind (f_Mo_valueOf q66.2 q66.1 0) (fun q71 => (Option.bind (f_Mo_with q71.2 a2 (q66.2 35 a0.toNat a1.toNat) q71.1) (fun q73 => (some (q73.1, q73.2))))))) else none))))))) else none)) else none)))) else none) else none) else none)
theorem f_x_Mo_comeStepT_0_1 : mblkB b_Mo_comeStep [(0, .aload_n 0, vi 0)] = true := by decide +kernel
theorem e_x_Mo_comeStepT_1 : decode b_Mo_comeStep 1 = .ok (.getfield 36, 3) := by decide +kernel
theorem f_x_Mo_comeStepT_4_1 : mblkB b_Mo_comeStep [(4, .iload_n 1, vi 0)] = true := by decide +kernel
theorem e_x_Mo_comeStepT_5 : decode b_Mo_comeStep 5 = .ok (.aaload, 1) := by decide +kernel
theorem f_x_Mo_comeStepT_6_1 : mblkB b_Mo_comeStep [(6, .iload_n 2, vi 0)] = true := by decide +kernel
theorem e_x_Mo_comeStepT_7 : decode b_Mo_comeStep 7 = .ok (.iaload, 1) := by decide +kernel
theorem f_x_Mo_comeStepT_8_1 : mblkB b_Mo_comeStep [(8, .iconst (-1), vi (-1))] = true := by decide +kernel
theorem e_x_Mo_comeStepT_9 : decode b_Mo_comeStep 9 = .ok (.if_icmp .ne 7, 3) := by decide +kernel
theorem f_x_Mo_comeStepT_16_3 : mblkB b_Mo_comeStep [(16, .aload_n 0, vi 0), (17, .iload_n 1, vi 0), (18, .aload_n 0, vi 0)] = true := by decide +kernel
theorem e_x_Mo_comeStepT_19 : decode b_Mo_comeStep 19 = .ok (.getfield 36, 3) := by decide +kernel
theorem f_x_Mo_comeStepT_22_1 : mblkB b_Mo_comeStep [(22, .iload_n 1, vi 0)] = true := by decide +kernel
theorem e_x_Mo_comeStepT_23 : decode b_Mo_comeStep 23 = .ok (.aaload, 1) := by decide +kernel
theorem f_x_Mo_comeStepT_24_1 : mblkB b_Mo_comeStep [(24, .iload_n 2, vi 0)] = true := by decide +kernel
theorem e_x_Mo_comeStepT_25 : decode b_Mo_comeStep 25 = .ok (.iaload, 1) := by decide +kernel
theorem f_x_Mo_comeStepT_26_1 : mblkB b_Mo_comeStep [(26, .iload_n 3, vi 0)] = true := by decide +kernel
theorem e_x_Mo_comeStepT_27 : decode b_Mo_comeStep 27 = .ok (.invokevirtual 263, 3) := by decide +kernel
theorem f_x_Mo_comeStepT_30_2 : mblkB b_Mo_comeStep [(30, .istore 4, vi 0), (32, .aload_n 0, vi 0)] = true := by decide +kernel
theorem e_x_Mo_comeStepT_33 : decode b_Mo_comeStep 33 = .ok (.getfield 21, 3) := by decide +kernel
theorem f_x_Mo_comeStepT_36_1 : mblkB b_Mo_comeStep [(36, .iload_n 1, vi 0)] = true := by decide +kernel
theorem e_x_Mo_comeStepT_37 : decode b_Mo_comeStep 37 = .ok (.aaload, 1) := by decide +kernel
theorem f_x_Mo_comeStepT_38_1 : mblkB b_Mo_comeStep [(38, .iload_n 2, vi 0)] = true := by decide +kernel
theorem e_x_Mo_comeStepT_39 : decode b_Mo_comeStep 39 = .ok (.iaload, 1) := by decide +kernel
theorem e_x_Mo_comeStepT_40 : decode b_Mo_comeStep 40 = .ok (.tableswitch 265 0 4 #[36, 134, 152, 163, 211], 36) := by decide +kernel
theorem f_x_Mo_comeStepT_76_2 : mblkB b_Mo_comeStep [(76, .aload_n 0, vi 0), (77, .aload_n 0, vi 0)] = true := by decide +kernel
theorem e_x_Mo_comeStepT_78 : decode b_Mo_comeStep 78 = .ok (.getfield 403, 3) := by decide +kernel
theorem e_x_Mo_comeStepT_81 : decode b_Mo_comeStep 81 = .ok (.ldc_w 406, 3) := by decide +kernel
theorem f_x_Mo_comeStepT_84_3 : mblkB b_Mo_comeStep [(84, .imul, vi 0), (85, .sipush 12345, vi 12345), (88, .iadd, vi 0)] = true := by decide +kernel
theorem e_x_Mo_comeStepT_89 : decode b_Mo_comeStep 89 = .ok (.putfield 403, 3) := by decide +kernel
theorem f_x_Mo_comeStepT_92_1 : mblkB b_Mo_comeStep [(92, .aload_n 0, vi 0)] = true := by decide +kernel
theorem e_x_Mo_comeStepT_93 : decode b_Mo_comeStep 93 = .ok (.getfield 403, 3) := by decide +kernel
theorem f_x_Mo_comeStepT_96_5 : mblkB b_Mo_comeStep [(96, .bipush 9, vi 9), (98, .iushr, vi 0), (99, .aload_n 0, vi 0), (100, .iload_n 1, vi 0), (101, .iload_n 2, vi 0)] = true := by decide +kernel
theorem e_x_Mo_comeStepT_102 : decode b_Mo_comeStep 102 = .ok (.invokevirtual 232, 3) := by decide +kernel
theorem e_x_Mo_comeStepT_105 : decode b_Mo_comeStep 105 = .ok (.irem, 1) := by decide +kernel
theorem f_x_Mo_comeStepT_106_2 : mblkB b_Mo_comeStep [(106, .istore 5, vi 0), (108, .aload_n 0, vi 0)] = true := by decide +kernel
theorem e_x_Mo_comeStepT_109 : decode b_Mo_comeStep 109 = .ok (.getfield 39, 3) := by decide +kernel
theorem f_x_Mo_comeStepT_112_1 : mblkB b_Mo_comeStep [(112, .iload_n 1, vi 0)] = true := by decide +kernel
theorem e_x_Mo_comeStepT_113 : decode b_Mo_comeStep 113 = .ok (.aaload, 1) := by decide +kernel
theorem f_x_Mo_comeStepT_114_1 : mblkB b_Mo_comeStep [(114, .iload_n 2, vi 0)] = true := by decide +kernel
theorem e_x_Mo_comeStepT_115 : decode b_Mo_comeStep 115 = .ok (.iaload, 1) := by decide +kernel
theorem f_x_Mo_comeStepT_116_1 : mblkB b_Mo_comeStep [(116, .istore 6, vi 0)] = true := by decide +kernel
theorem f_x_Mo_comeStepT_174_2 : mblkB b_Mo_comeStep [(174, .iload_n 3, vi 0), (175, .aload_n 0, vi 0)] = true := by decide +kernel
theorem e_x_Mo_comeStepT_176 : decode b_Mo_comeStep 176 = .ok (.getfield 24, 3) := by decide +kernel
theorem f_x_Mo_comeStepT_179_1 : mblkB b_Mo_comeStep [(179, .iload_n 1, vi 0)] = true := by decide +kernel
theorem e_x_Mo_comeStepT_180 : decode b_Mo_comeStep 180 = .ok (.aaload, 1) := by decide +kernel
theorem f_x_Mo_comeStepT_181_1 : mblkB b_Mo_comeStep [(181, .iload_n 2, vi 0)] = true := by decide +kernel
theorem e_x_Mo_comeStepT_182 : decode b_Mo_comeStep 182 = .ok (.iaload, 1) := by decide +kernel
theorem f_x_Mo_comeStepT_183_1 : mblkB b_Mo_comeStep [(183, .iload 4, vi 0)] = true := by decide +kernel
theorem e_x_Mo_comeStepT_185 : decode b_Mo_comeStep 185 = .ok (.invokestatic 333, 3) := by decide +kernel
theorem e_x_Mo_comeStepT_188 : decode b_Mo_comeStep 188 = .ok (.invokestatic 282, 3) := by decide +kernel
theorem e_x_Mo_comeStepT_191 : decode b_Mo_comeStep 191 = .ok (.ireturn, 1) := by decide +kernel
theorem f_x_Mo_comeStepT_192_1 : mblkB b_Mo_comeStep [(192, .iload 4, vi 0)] = true := by decide +kernel
theorem e_x_Mo_comeStepT_194 : decode b_Mo_comeStep 194 = .ok (.ifCond .eq 7, 3) := by decide +kernel
theorem f_x_Mo_comeStepT_201_1 : mblkB b_Mo_comeStep [(201, .iconst (-1), vi (-1))] = true := by decide +kernel
theorem e_x_Mo_comeStepT_202 : decode b_Mo_comeStep 202 = .ok (.ireturn, 1) := by decide +kernel
theorem f_x_Mo_comeStepT_197_2 : mblkB b_Mo_comeStep [(197, .iload_n 3, vi 0), (198, .goto 4, vi 202)] = true := by decide +kernel
theorem f_x_Mo_comeStepT_203_1 : mblkB b_Mo_comeStep [(203, .iload 4, vi 0)] = true := by decide +kernel
theorem e_x_Mo_comeStepT_205 : decode b_Mo_comeStep 205 = .ok (.ifCond .eq 23, 3) := by decide +kernel
theorem f_x_Mo_comeStepT_228_3 : mblkB b_Mo_comeStep [(228, .aload_n 0, vi 0), (229, .iload_n 1, vi 0), (230, .aload_n 0, vi 0)] = true := by decide +kernel
theorem e_x_Mo_comeStepT_231 : decode b_Mo_comeStep 231 = .ok (.getfield 33, 3) := by decide +kernel
theorem f_x_Mo_comeStepT_234_1 : mblkB b_Mo_comeStep [(234, .iload_n 1, vi 0)] = true := by decide +kernel
theorem e_x_Mo_comeStepT_235 : decode b_Mo_comeStep 235 = .ok (.aaload, 1) := by decide +kernel
theorem f_x_Mo_comeStepT_236_1 : mblkB b_Mo_comeStep [(236, .iload_n 2, vi 0)] = true := by decide +kernel
theorem e_x_Mo_comeStepT_237 : decode b_Mo_comeStep 237 = .ok (.iaload, 1) := by decide +kernel
theorem f_x_Mo_comeStepT_238_1 : mblkB b_Mo_comeStep [(238, .aload_n 0, vi 0)] = true := by decide +kernel
theorem e_x_Mo_comeStepT_239 : decode b_Mo_comeStep 239 = .ok (.getfield 30, 3) := by decide +kernel
theorem f_x_Mo_comeStepT_242_1 : mblkB b_Mo_comeStep [(242, .iload_n 1, vi 0)] = true := by decide +kernel
theorem e_x_Mo_comeStepT_243 : decode b_Mo_comeStep 243 = .ok (.aaload, 1) := by decide +kernel
theorem f_x_Mo_comeStepT_244_1 : mblkB b_Mo_comeStep [(244, .iload_n 2, vi 0)] = true := by decide +kernel
theorem e_x_Mo_comeStepT_245 : decode b_Mo_comeStep 245 = .ok (.iaload, 1) := by decide +kernel
theorem f_x_Mo_comeStepT_246_1 : mblkB b_Mo_comeStep [(246, .iload_n 3, vi 0)] = true := by decide +kernel
theorem e_x_Mo_comeStepT_247 : decode b_Mo_comeStep 247 = .ok (.invokevirtual 407, 3) := by decide +kernel
theorem e_x_Mo_comeStepT_250 : decode b_Mo_comeStep 250 = .ok (.ireturn, 1) := by decide +kernel
theorem f_x_Mo_comeStepT_208_6 : mblkB b_Mo_comeStep [(208, .aload_n 0, vi 0), (209, .iload_n 1, vi 0), (210, .iload_n 2, vi 0), (211, .iconst 1, vi 1), (212, .iadd, vi 0), (213, .aload_n 0, vi 0)] = true := by decide +kernel
theorem e_x_Mo_comeStepT_214 : decode b_Mo_comeStep 214 = .ok (.getfield 33, 3) := by decide +kernel
theorem f_x_Mo_comeStepT_217_1 : mblkB b_Mo_comeStep [(217, .iload_n 1, vi 0)] = true := by decide +kernel
theorem e_x_Mo_comeStepT_218 : decode b_Mo_comeStep 218 = .ok (.aaload, 1) := by decide +kernel
theorem f_x_Mo_comeStepT_219_1 : mblkB b_Mo_comeStep [(219, .iload_n 2, vi 0)] = true := by decide +kernel
theorem e_x_Mo_comeStepT_220 : decode b_Mo_comeStep 220 = .ok (.iaload, 1) := by decide +kernel
theorem f_x_Mo_comeStepT_221_1 : mblkB b_Mo_comeStep [(221, .iload_n 3, vi 0)] = true := by decide +kernel
theorem e_x_Mo_comeStepT_222 : decode b_Mo_comeStep 222 = .ok (.invokevirtual 407, 3) := by decide +kernel
theorem f_x_Mo_comeStepT_225_1 : mblkB b_Mo_comeStep [(225, .goto 25, vi 250)] = true := by decide +kernel
theorem f_x_Mo_comeStepT_251_4 : mblkB b_Mo_comeStep [(251, .iload_n 3, vi 0), (252, .istore 7, vi 0), (254, .iconst 0, vi 0), (255, .istore 8, vi 0)] = true := by decide +kernel
theorem f_x_Mo_comeStepT_305_1 : mblkB b_Mo_comeStep [(305, .aload_n 0, vi 0)] = true := by decide +kernel
theorem e_x_Mo_comeStepT_306 : decode b_Mo_comeStep 306 = .ok (.getfield 27, 3) := by decide +kernel
theorem f_x_Mo_comeStepT_309_1 : mblkB b_Mo_comeStep [(309, .iload_n 1, vi 0)] = true := by decide +kernel
theorem e_x_Mo_comeStepT_310 : decode b_Mo_comeStep 310 = .ok (.aaload, 1) := by decide +kernel
theorem f_x_Mo_comeStepT_311_1 : mblkB b_Mo_comeStep [(311, .iload_n 2, vi 0)] = true := by decide +kernel
theorem e_x_Mo_comeStepT_312 : decode b_Mo_comeStep 312 = .ok (.iaload, 1) := by decide +kernel
theorem f_x_Mo_comeStepT_313_5 : mblkB b_Mo_comeStep [(313, .istore 8, vi 0), (315, .aload_n 0, vi 0), (316, .iload 8, vi 0), (318, .iconst 0, vi 0), (319, .aload_n 0, vi 0)] = true := by decide +kernel
theorem e_x_Mo_comeStepT_320 : decode b_Mo_comeStep 320 = .ok (.getfield 9, 3) := by decide +kernel
theorem f_x_Mo_comeStepT_323_1 : mblkB b_Mo_comeStep [(323, .iload 8, vi 0)] = true := by decide +kernel
theorem e_x_Mo_comeStepT_325 : decode b_Mo_comeStep 325 = .ok (.iaload, 1) := by decide +kernel
theorem f_x_Mo_comeStepT_326_3 : mblkB b_Mo_comeStep [(326, .iconst 0, vi 0), (327, .iconst 0, vi 0), (328, .iload 4, vi 0)] = true := by decide +kernel
theorem e_x_Mo_comeStepT_330 : decode b_Mo_comeStep 330 = .ok (.invokestatic 333, 3) := by decide +kernel
theorem e_x_Mo_comeStepT_333 : decode b_Mo_comeStep 333 = .ok (.invokestatic 282, 3) := by decide +kernel
theorem e_x_Mo_comeStepT_336 : decode b_Mo_comeStep 336 = .ok (.invokevirtual 407, 3) := by decide +kernel
theorem f_x_Mo_comeStepT_339_3 : mblkB b_Mo_comeStep [(339, .istore 9, vi 0), (341, .iload 9, vi 0), (343, .iconst (-1), vi (-1))] = true := by decide +kernel
theorem e_x_Mo_comeStepT_344 : decode b_Mo_comeStep 344 = .ok (.if_icmp .ne 7, 3) := by decide +kernel
theorem f_x_Mo_comeStepT_351_2 : mblkB b_Mo_comeStep [(351, .iload_n 3, vi 0), (352, .aload_n 0, vi 0)] = true := by decide +kernel
theorem e_x_Mo_comeStepT_353 : decode b_Mo_comeStep 353 = .ok (.getfield 24, 3) := by decide +kernel
theorem f_x_Mo_comeStepT_356_1 : mblkB b_Mo_comeStep [(356, .iload_n 1, vi 0)] = true := by decide +kernel
theorem e_x_Mo_comeStepT_357 : decode b_Mo_comeStep 357 = .ok (.aaload, 1) := by decide +kernel
theorem f_x_Mo_comeStepT_358_1 : mblkB b_Mo_comeStep [(358, .iload_n 2, vi 0)] = true := by decide +kernel
theorem e_x_Mo_comeStepT_359 : decode b_Mo_comeStep 359 = .ok (.iaload, 1) := by decide +kernel
theorem f_x_Mo_comeStepT_360_2 : mblkB b_Mo_comeStep [(360, .iload 9, vi 0), (362, .iconst 0, vi 0)] = true := by decide +kernel
theorem e_x_Mo_comeStepT_363 : decode b_Mo_comeStep 363 = .ok (.invokestatic 260, 3) := by decide +kernel
theorem e_x_Mo_comeStepT_366 : decode b_Mo_comeStep 366 = .ok (.invokestatic 282, 3) := by decide +kernel
theorem e_x_Mo_comeStepT_369 : decode b_Mo_comeStep 369 = .ok (.ireturn, 1) := by decide +kernel
theorem f_x_Mo_comeStepT_347_2 : mblkB b_Mo_comeStep [(347, .iconst (-1), vi (-1)), (348, .goto 21, vi 369)] = true := by decide +kernel
theorem f_x_Mo_comeStepT_12_2 : mblkB b_Mo_comeStep [(12, .iconst 0, vi 0), (13, .goto 17, vi 30)] = true := by decide +kernel
theorem f_x_Mo_comeStepT_118_2 : mblkB b_Mo_comeStep [(118, .iload 5, vi 0), (120, .aload_n 0, vi 0)] = true := by decide +kernel
theorem e_x_Mo_comeStepT_121 : decode b_Mo_comeStep 121 = .ok (.getfield 45, 3) := by decide +kernel
theorem f_x_Mo_comeStepT_124_1 : mblkB b_Mo_comeStep [(124, .iload_n 1, vi 0)] = true := by decide +kernel
theorem e_x_Mo_comeStepT_125 : decode b_Mo_comeStep 125 = .ok (.aaload, 1) := by decide +kernel
theorem f_x_Mo_comeStepT_126_1 : mblkB b_Mo_comeStep [(126, .iload 6, vi 0)] = true := by decide +kernel
theorem e_x_Mo_comeStepT_128 : decode b_Mo_comeStep 128 = .ok (.iaload, 1) := by decide +kernel
theorem e_x_Mo_comeStepT_129 : decode b_Mo_comeStep 129 = .ok (.if_icmp .lt 23, 3) := by decide +kernel
theorem f_x_Mo_comeStepT_152_2 : mblkB b_Mo_comeStep [(152, .iload_n 3, vi 0), (153, .aload_n 0, vi 0)] = true := by decide +kernel
theorem e_x_Mo_comeStepT_154 : decode b_Mo_comeStep 154 = .ok (.getfield 24, 3) := by decide +kernel
theorem f_x_Mo_comeStepT_157_1 : mblkB b_Mo_comeStep [(157, .iload_n 1, vi 0)] = true := by decide +kernel
theorem e_x_Mo_comeStepT_158 : decode b_Mo_comeStep 158 = .ok (.aaload, 1) := by decide +kernel
theorem f_x_Mo_comeStepT_159_1 : mblkB b_Mo_comeStep [(159, .iload_n 2, vi 0)] = true := by decide +kernel
theorem e_x_Mo_comeStepT_160 : decode b_Mo_comeStep 160 = .ok (.iaload, 1) := by decide +kernel
theorem f_x_Mo_comeStepT_161_1 : mblkB b_Mo_comeStep [(161, .aload_n 0, vi 0)] = true := by decide +kernel
theorem e_x_Mo_comeStepT_162 : decode b_Mo_comeStep 162 = .ok (.getfield 42, 3) := by decide +kernel
theorem f_x_Mo_comeStepT_165_1 : mblkB b_Mo_comeStep [(165, .iload_n 1, vi 0)] = true := by decide +kernel
theorem e_x_Mo_comeStepT_166 : decode b_Mo_comeStep 166 = .ok (.aaload, 1) := by decide +kernel
theorem f_x_Mo_comeStepT_167_1 : mblkB b_Mo_comeStep [(167, .iload 6, vi 0)] = true := by decide +kernel
theorem e_x_Mo_comeStepT_169 : decode b_Mo_comeStep 169 = .ok (.iaload, 1) := by decide +kernel
theorem e_x_Mo_comeStepT_170 : decode b_Mo_comeStep 170 = .ok (.invokestatic 282, 3) := by decide +kernel
theorem e_x_Mo_comeStepT_173 : decode b_Mo_comeStep 173 = .ok (.ireturn, 1) := by decide +kernel
theorem f_x_Mo_comeStepT_132_2 : mblkB b_Mo_comeStep [(132, .iload 5, vi 0), (134, .aload_n 0, vi 0)] = true := by decide +kernel
theorem e_x_Mo_comeStepT_135 : decode b_Mo_comeStep 135 = .ok (.getfield 45, 3) := by decide +kernel
theorem f_x_Mo_comeStepT_138_1 : mblkB b_Mo_comeStep [(138, .iload_n 1, vi 0)] = true := by decide +kernel
theorem e_x_Mo_comeStepT_139 : decode b_Mo_comeStep 139 = .ok (.aaload, 1) := by decide +kernel
theorem f_x_Mo_comeStepT_140_1 : mblkB b_Mo_comeStep [(140, .iload 6, vi 0)] = true := by decide +kernel
theorem e_x_Mo_comeStepT_142 : decode b_Mo_comeStep 142 = .ok (.iaload, 1) := by decide +kernel
theorem f_x_Mo_comeStepT_143_4 : mblkB b_Mo_comeStep [(143, .isub, vi 0), (144, .istore 5, vi 0), (146, .iinc 6 1, vi 1), (149, .goto (-31), vi 118)] = true := by decide +kernel
theorem f_x_Mo_comeStepT_257_2 : mblkB b_Mo_comeStep [(257, .iload 8, vi 0), (259, .aload_n 0, vi 0)] = true := by decide +kernel
theorem e_x_Mo_comeStepT_260 : decode b_Mo_comeStep 260 = .ok (.getfield 27, 3) := by decide +kernel
theorem f_x_Mo_comeStepT_263_1 : mblkB b_Mo_comeStep [(263, .iload_n 1, vi 0)] = true := by decide +kernel
theorem e_x_Mo_comeStepT_264 : decode b_Mo_comeStep 264 = .ok (.aaload, 1) := by decide +kernel
theorem f_x_Mo_comeStepT_265_1 : mblkB b_Mo_comeStep [(265, .iload_n 2, vi 0)] = true := by decide +kernel
theorem e_x_Mo_comeStepT_266 : decode b_Mo_comeStep 266 = .ok (.iaload, 1) := by decide +kernel
theorem e_x_Mo_comeStepT_267 : decode b_Mo_comeStep 267 = .ok (.if_icmp .ge 35, 3) := by decide +kernel
theorem f_x_Mo_comeStepT_302_1 : mblkB b_Mo_comeStep [(302, .iload 7, vi 0)] = true := by decide +kernel
theorem e_x_Mo_comeStepT_304 : decode b_Mo_comeStep 304 = .ok (.ireturn, 1) := by decide +kernel
theorem f_x_Mo_comeStepT_270_2 : mblkB b_Mo_comeStep [(270, .iload 7, vi 0), (272, .iconst (-1), vi (-1))] = true := by decide +kernel
theorem e_x_Mo_comeStepT_273 : decode b_Mo_comeStep 273 = .ok (.if_icmp .eq 29, 3) := by decide +kernel
theorem f_x_Mo_comeStepT_276_6 : mblkB b_Mo_comeStep [(276, .aload_n 0, vi 0), (277, .iload_n 1, vi 0), (278, .iload_n 2, vi 0), (279, .iconst 1, vi 1), (280, .iadd, vi 0), (281, .aload_n 0, vi 0)] = true := by decide +kernel
theorem e_x_Mo_comeStepT_282 : decode b_Mo_comeStep 282 = .ok (.getfield 30, 3) := by decide +kernel
theorem f_x_Mo_comeStepT_285_1 : mblkB b_Mo_comeStep [(285, .iload_n 1, vi 0)] = true := by decide +kernel
theorem e_x_Mo_comeStepT_286 : decode b_Mo_comeStep 286 = .ok (.aaload, 1) := by decide +kernel
theorem f_x_Mo_comeStepT_287_1 : mblkB b_Mo_comeStep [(287, .iload_n 2, vi 0)] = true := by decide +kernel
theorem e_x_Mo_comeStepT_288 : decode b_Mo_comeStep 288 = .ok (.iaload, 1) := by decide +kernel
theorem f_x_Mo_comeStepT_289_1 : mblkB b_Mo_comeStep [(289, .iload 7, vi 0)] = true := by decide +kernel
theorem e_x_Mo_comeStepT_291 : decode b_Mo_comeStep 291 = .ok (.invokevirtual 407, 3) := by decide +kernel
theorem f_x_Mo_comeStepT_294_3 : mblkB b_Mo_comeStep [(294, .istore 7, vi 0), (296, .iinc 8 1, vi 1), (299, .goto (-42), vi 257)] = true := by decide +kernel
set_option maxHeartbeats 4000000 in
set_option maxRecDepth 20000 in
theorem x_Mo_comeStepT {cst : mA → Int → Int → Int → Option (Int × mA)} {fr lo : Nat} (hcst : ∀ (l : Launch) (D : va_G) (B : Nat) (H0 : Heap) (ad : mAd) (A : mA) (a0 : Int) (a1 : Int) (a2 : Int) (hS : mStr D ad) (r9 : Int) (A9 : mA), cst A a0 a1 a2 = some (r9, A9) → mMet l D B H0 ad y_Mo_comeStep b_Mo_comeStep 10 (some .int) (fr + 740) (lo + 24400) [vr 0 0, vi a0, vi a1, vi a2] A (fun v A' => v = some (vi r9) ∧ A' = A9)) : ∀ (l : Launch) (D : va_G) (B : Nat) (H0 : Heap) (ad : mAd) (A : mA) (a0 : Int) (a1 : Int) (a2 : Int) (hS : mStr D ad) (r9 : Int) (A9 : mA), f_Mo_comeStepT cst A a0 a1 a2 = some (r9, A9) → mMet l D B H0 ad y_Mo_comeStep b_Mo_comeStep 10 (some .int) (fr + 744) (lo + 24520) [vr 0 0, vi a0, vi a1, vi a2] A (fun v A' => v = some (vi r9) ∧ A' = A9) := by
  intro l D B H0 ad A a0 a1 a2  hS r9 A9 h
  refine m_met (by decide) rfl (fun g w0 C Rm Y E => ?_)
  have hd_257 : ∀ (n : Nat) (A : mA) (b1 : Int) (b2 : Int) (b7 : Int) (b8 : Int) , f_Mo_comeStepT_257 cst n A b1 b2 b7 b8 = some (r9, A9) → JM g D ad w0 A 257 [(0, vr 0 0), (1, vi b1), (2, vi b2), (7, vi b7), (8, vi b8)] [] := by
    intro n
    induction n with
    | zero => intro A b1 b2 b7 b8  h; cases h
    | succ n ih =>
      intro A b1 b2 b7 b8  h
      unfold f_Mo_comeStepT_257 at h
      refine m_blk 260 [(0, vr 0 0), (1, vi b1), (2, vi b2), (7, vi b7), (8, vi b8)] [vr 0 0, vi b8] C f_x_Mo_comeStepT_257_2 rfl ?_
      refine m_getr C e_x_Mo_comeStepT_260 fg_Mo_27 rfl (by decide) rfl ?_
      refine m_blk 264 [(0, vr 0 0), (1, vi b1), (2, vi b2), (7, vi b7), (8, vi b8)] [vi b1, vr 16 0, vi b8] C f_x_Mo_comeStepT_263_1 rfl ?_
      obtain ⟨c1, h⟩ := igd h
      have k2 : b1.toNat < 6 := by omega
      refine m_aald C b1.toNat e_x_Mo_comeStepT_264 rfl rfl rfl (by decide) (by decide) c1.1 c1.2 (mz _ _) ?_
      refine m_blk 266 [(0, vr 0 0), (1, vi b1), (2, vi b2), (7, vi b7), (8, vi b8)] [vi b2, vr 36 b1.toNat, vi b8] C f_x_Mo_comeStepT_265_1 rfl ?_
      obtain ⟨c3, h⟩ := igd h
      refine m_iald C e_x_Mo_comeStepT_266 rfl k2 (by decide) c3.1 c3.2 (A 36 b1.toNat b2.toNat) rfl ?_
      obtain ⟨c4, h⟩ := igd h
      obtain ⟨c5, h⟩ := igd h
      refine m_icmp_ge (tgt := 302) C e_x_Mo_comeStepT_267 (by decide) c4 c5 (fun c6 => ?_) (fun c6 => ?_)
      · have h := ifp c6 h
        refine m_blk 304 [(0, vr 0 0), (1, vi b1), (2, vi b2), (7, vi b7), (8, vi b8)] [vi b7] C f_x_Mo_comeStepT_302_1 rfl ?_
        exact m_iret C Rm E e_x_Mo_comeStepT_304 (fin1 h)
      · have h := ifn c6 h
        refine m_blk 273 [(0, vr 0 0), (1, vi b1), (2, vi b2), (7, vi b7), (8, vi b8)] [vi (-1), vi b7] C f_x_Mo_comeStepT_270_2 rfl ?_
        obtain ⟨c7, h⟩ := igd h
        refine m_icmp_eq (tgt := 302) C e_x_Mo_comeStepT_273 (by decide) c7 (by decide) (fun c8 => ?_) (fun c8 => ?_)
        · have h := ifp c8 h
          refine m_blk 304 [(0, vr 0 0), (1, vi b1), (2, vi b2), (7, vi b7), (8, vi b8)] [vi b7] C f_x_Mo_comeStepT_302_1 rfl ?_
          exact m_iret C Rm E e_x_Mo_comeStepT_304 (fin1 h)
        · have h := ifn c8 h
          refine m_blk 282 [(0, vr 0 0), (1, vi b1), (2, vi b2), (7, vi b7), (8, vi b8)] [vr 0 0, vi (b2 + 1), vi b1, vr 0 0] C f_x_Mo_comeStepT_276_6 rfl ?_
          refine m_getr C e_x_Mo_comeStepT_282 fg_Mo_30 rfl (by decide) rfl ?_
          refine m_blk 286 [(0, vr 0 0), (1, vi b1), (2, vi b2), (7, vi b7), (8, vi b8)] [vi b1, vr 17 0, vi (b2 + 1), vi b1, vr 0 0] C f_x_Mo_comeStepT_285_1 rfl ?_
          have k9 : b1.toNat < 6 := by omega
          refine m_aald C b1.toNat e_x_Mo_comeStepT_286 rfl rfl rfl (by decide) (by decide) c1.1 c1.2 (mz _ _) ?_
          refine m_blk 288 [(0, vr 0 0), (1, vi b1), (2, vi b2), (7, vi b7), (8, vi b8)] [vi b2, vr 37 b1.toNat, vi (b2 + 1), vi b1, vr 0 0] C f_x_Mo_comeStepT_287_1 rfl ?_
          refine m_iald C e_x_Mo_comeStepT_288 rfl k9 (by decide) c3.1 c3.2 (A 37 b1.toNat b2.toNat) rfl ?_
          refine m_blk 291 [(0, vr 0 0), (1, vi b1), (2, vi b2), (7, vi b7), (8, vi b8)] [vi b7, vi (A 37 b1.toNat b2.toNat), vi (b2 + 1), vi b1, vr 0 0] C f_x_Mo_comeStepT_289_1 rfl ?_
          obtain ⟨q10, e11, h⟩ := obd h
          refine m_callV C Rm Y [vi b1, vi (b2 + 1), vi (A 37 b1.toNat b2.toNat), vi b7] [] (x_Mo_come hcst l D B H0 ad _ b1 (b2 + 1) (A 37 b1.toNat b2.toNat) b7 hS _ _ e11) cl_Mo_407 rfl (by decide) rfl rfl e_x_Mo_comeStepT_291 rfl rfl rfl ⟨by show _ ≤ ((fr + 744) : Nat); omega, by show _ ≤ ((lo + 24520) : Nat); omega⟩ ?_
          rintro _ _ ⟨rfl, rfl⟩
          show JM g D ad w0 q10.2 294 [(0, vr 0 0), (1, vi b1), (2, vi b2), (7, vi b7), (8, vi b8)] [vi q10.1]
          refine m_blk 257 [(8, vi (b8 + 1)), (7, vi q10.1), (0, vr 0 0), (1, vi b1), (2, vi b2)] [] C f_x_Mo_comeStepT_294_3 rfl ?_
          refine m_loc [(0, vr 0 0), (1, vi b1), (2, vi b2), (7, vi q10.1), (8, vi (b8 + 1))] ⟨rfl, rfl, rfl, rfl, rfl, trivial⟩ ?_
          exact ih q10.2 b1 b2 q10.1 (b8 + 1)  h
  have hd_118 : ∀ (n : Nat) (A : mA) (b1 : Int) (b2 : Int) (b3 : Int) (b5 : Int) (b6 : Int) , f_Mo_comeStepT_118 cst n A b1 b2 b3 b5 b6 = some (r9, A9) → JM g D ad w0 A 118 [(0, vr 0 0), (1, vi b1), (2, vi b2), (3, vi b3), (5, vi b5), (6, vi b6)] [] := by
    intro n
    induction n with
    | zero => intro A b1 b2 b3 b5 b6  h; cases h
    | succ n ih =>
      intro A b1 b2 b3 b5 b6  h
      unfold f_Mo_comeStepT_118 at h
      refine m_blk 121 [(0, vr 0 0), (1, vi b1), (2, vi b2), (3, vi b3), (5, vi b5), (6, vi b6)] [vr 0 0, vi b5] C f_x_Mo_comeStepT_118_2 rfl ?_
      refine m_getr C e_x_Mo_comeStepT_121 fg_Mo_45 rfl (by decide) rfl ?_
      refine m_blk 125 [(0, vr 0 0), (1, vi b1), (2, vi b2), (3, vi b3), (5, vi b5), (6, vi b6)] [vi b1, vr 22 0, vi b5] C f_x_Mo_comeStepT_124_1 rfl ?_
      obtain ⟨c12, h⟩ := igd h
      have k13 : b1.toNat < 6 := by omega
      refine m_aald C b1.toNat e_x_Mo_comeStepT_125 rfl rfl rfl (by decide) (by decide) c12.1 c12.2 (mz _ _) ?_
      refine m_blk 128 [(0, vr 0 0), (1, vi b1), (2, vi b2), (3, vi b3), (5, vi b5), (6, vi b6)] [vi b6, vr 42 b1.toNat, vi b5] C f_x_Mo_comeStepT_126_1 rfl ?_
      obtain ⟨c14, h⟩ := igd h
      refine m_iald C e_x_Mo_comeStepT_128 rfl k13 (by decide) c14.1 c14.2 (A 42 b1.toNat b6.toNat) rfl ?_
      obtain ⟨c15, h⟩ := igd h
      obtain ⟨c16, h⟩ := igd h
      refine m_icmp_lt (tgt := 152) C e_x_Mo_comeStepT_129 (by decide) c15 c16 (fun c17 => ?_) (fun c17 => ?_)
      · have h := ifp c17 h
        refine m_blk 154 [(0, vr 0 0), (1, vi b1), (2, vi b2), (3, vi b3), (5, vi b5), (6, vi b6)] [vr 0 0, vi b3] C f_x_Mo_comeStepT_152_2 rfl ?_
        refine m_getr C e_x_Mo_comeStepT_154 fg_Mo_24 rfl (by decide) rfl ?_
        refine m_blk 158 [(0, vr 0 0), (1, vi b1), (2, vi b2), (3, vi b3), (5, vi b5), (6, vi b6)] [vi b1, vr 15 0, vi b3] C f_x_Mo_comeStepT_157_1 rfl ?_
        have k18 : b1.toNat < 6 := by omega
        refine m_aald C b1.toNat e_x_Mo_comeStepT_158 rfl rfl rfl (by decide) (by decide) c12.1 c12.2 (mz _ _) ?_
        refine m_blk 160 [(0, vr 0 0), (1, vi b1), (2, vi b2), (3, vi b3), (5, vi b5), (6, vi b6)] [vi b2, vr 35 b1.toNat, vi b3] C f_x_Mo_comeStepT_159_1 rfl ?_
        obtain ⟨c19, h⟩ := igd h
        refine m_iald C e_x_Mo_comeStepT_160 rfl k18 (by decide) c19.1 c19.2 (A 35 b1.toNat b2.toNat) rfl ?_
        refine m_blk 162 [(0, vr 0 0), (1, vi b1), (2, vi b2), (3, vi b3), (5, vi b5), (6, vi b6)] [vr 0 0, vi (A 35 b1.toNat b2.toNat), vi b3] C f_x_Mo_comeStepT_161_1 rfl ?_
        refine m_getr C e_x_Mo_comeStepT_162 fg_Mo_42 rfl (by decide) rfl ?_
        refine m_blk 166 [(0, vr 0 0), (1, vi b1), (2, vi b2), (3, vi b3), (5, vi b5), (6, vi b6)] [vi b1, vr 21 0, vi (A 35 b1.toNat b2.toNat), vi b3] C f_x_Mo_comeStepT_165_1 rfl ?_
        have k20 : b1.toNat < 6 := by omega
        refine m_aald C b1.toNat e_x_Mo_comeStepT_166 rfl rfl rfl (by decide) (by decide) c12.1 c12.2 (mz _ _) ?_
        refine m_blk 169 [(0, vr 0 0), (1, vi b1), (2, vi b2), (3, vi b3), (5, vi b5), (6, vi b6)] [vi b6, vr 41 b1.toNat, vi (A 35 b1.toNat b2.toNat), vi b3] C f_x_Mo_comeStepT_167_1 rfl ?_
        refine m_iald C e_x_Mo_comeStepT_169 rfl k20 (by decide) c14.1 c14.2 (A 41 b1.toNat b6.toNat) rfl ?_
        obtain ⟨q21, e22, h⟩ := obd h
        refine m_callS C Rm Y [vi b3, vi (A 35 b1.toNat b2.toNat), vi (A 41 b1.toNat b6.toNat)] [] (x_Mo_with l D B H0 ad _ b3 (A 35 b1.toNat b2.toNat) (A 41 b1.toNat b6.toNat) hS _ _ e22) cl_Mo_282 e_x_Mo_comeStepT_170 rfl rfl rfl ⟨by show _ ≤ ((fr + 744) : Nat); omega, by show _ ≤ ((lo + 24520) : Nat); omega⟩ ?_
        rintro _ _ ⟨rfl, rfl⟩
        show JM g D ad w0 q21.2 173 [(0, vr 0 0), (1, vi b1), (2, vi b2), (3, vi b3), (5, vi b5), (6, vi b6)] [vi q21.1]
        exact m_iret C Rm E e_x_Mo_comeStepT_173 (fin1 h)
      · have h := ifn c17 h
        refine m_blk 135 [(0, vr 0 0), (1, vi b1), (2, vi b2), (3, vi b3), (5, vi b5), (6, vi b6)] [vr 0 0, vi b5] C f_x_Mo_comeStepT_132_2 rfl ?_
        refine m_getr C e_x_Mo_comeStepT_135 fg_Mo_45 rfl (by decide) rfl ?_
        refine m_blk 139 [(0, vr 0 0), (1, vi b1), (2, vi b2), (3, vi b3), (5, vi b5), (6, vi b6)] [vi b1, vr 22 0, vi b5] C f_x_Mo_comeStepT_138_1 rfl ?_
        have k23 : b1.toNat < 6 := by omega
        refine m_aald C b1.toNat e_x_Mo_comeStepT_139 rfl rfl rfl (by decide) (by decide) c12.1 c12.2 (mz _ _) ?_
        refine m_blk 142 [(0, vr 0 0), (1, vi b1), (2, vi b2), (3, vi b3), (5, vi b5), (6, vi b6)] [vi b6, vr 42 b1.toNat, vi b5] C f_x_Mo_comeStepT_140_1 rfl ?_
        refine m_iald C e_x_Mo_comeStepT_142 rfl k23 (by decide) c14.1 c14.2 (A 42 b1.toNat b6.toNat) rfl ?_
        refine m_blk 118 [(6, vi (b6 + 1)), (5, vi (b5 - (A 42 b1.toNat b6.toNat))), (0, vr 0 0), (1, vi b1), (2, vi b2), (3, vi b3)] [] C f_x_Mo_comeStepT_143_4 rfl ?_
        refine m_loc [(0, vr 0 0), (1, vi b1), (2, vi b2), (3, vi b3), (5, vi (b5 - (A 42 b1.toNat b6.toNat))), (6, vi (b6 + 1))] ⟨rfl, rfl, rfl, rfl, rfl, rfl, trivial⟩ ?_
        exact ih A b1 b2 b3 (b5 - (A 42 b1.toNat b6.toNat)) (b6 + 1)  h
  show JM g D ad w0 A 0 [(0, vr 0 0), (1, vi a0), (2, vi a1), (3, vi a2)] []
  unfold f_Mo_comeStepT at h
  refine m_blk 1 [(0, vr 0 0), (1, vi a0), (2, vi a1), (3, vi a2)] [vr 0 0] C f_x_Mo_comeStepT_0_1 rfl ?_
  refine m_getr C e_x_Mo_comeStepT_1 fg_Mo_36 rfl (by decide) rfl ?_
  refine m_blk 5 [(0, vr 0 0), (1, vi a0), (2, vi a1), (3, vi a2)] [vi a0, vr 19 0] C f_x_Mo_comeStepT_4_1 rfl ?_
  obtain ⟨c24, h⟩ := igd h
  have k25 : a0.toNat < 6 := by omega
  refine m_aald C a0.toNat e_x_Mo_comeStepT_5 rfl rfl rfl (by decide) (by decide) c24.1 c24.2 (mz _ _) ?_
  refine m_blk 7 [(0, vr 0 0), (1, vi a0), (2, vi a1), (3, vi a2)] [vi a1, vr 39 a0.toNat] C f_x_Mo_comeStepT_6_1 rfl ?_
  obtain ⟨c26, h⟩ := igd h
  refine m_iald C e_x_Mo_comeStepT_7 rfl k25 (by decide) c26.1 c26.2 (A 39 a0.toNat a1.toNat) rfl ?_
  refine m_blk 9 [(0, vr 0 0), (1, vi a0), (2, vi a1), (3, vi a2)] [vi (-1), vi (A 39 a0.toNat a1.toNat)] C f_x_Mo_comeStepT_8_1 rfl ?_
  obtain ⟨c27, h⟩ := igd h
  refine m_icmp_ne (tgt := 16) C e_x_Mo_comeStepT_9 (by decide) c27 (by decide) (fun c28 => ?_) (fun c28 => ?_)
  · have h := ifn c28 h
    refine m_blk 19 [(0, vr 0 0), (1, vi a0), (2, vi a1), (3, vi a2)] [vr 0 0, vi a0, vr 0 0] C f_x_Mo_comeStepT_16_3 rfl ?_
    refine m_getr C e_x_Mo_comeStepT_19 fg_Mo_36 rfl (by decide) rfl ?_
    refine m_blk 23 [(0, vr 0 0), (1, vi a0), (2, vi a1), (3, vi a2)] [vi a0, vr 19 0, vi a0, vr 0 0] C f_x_Mo_comeStepT_22_1 rfl ?_
    have k29 : a0.toNat < 6 := by omega
    refine m_aald C a0.toNat e_x_Mo_comeStepT_23 rfl rfl rfl (by decide) (by decide) c24.1 c24.2 (mz _ _) ?_
    refine m_blk 25 [(0, vr 0 0), (1, vi a0), (2, vi a1), (3, vi a2)] [vi a1, vr 39 a0.toNat, vi a0, vr 0 0] C f_x_Mo_comeStepT_24_1 rfl ?_
    refine m_iald C e_x_Mo_comeStepT_25 rfl k29 (by decide) c26.1 c26.2 (A 39 a0.toNat a1.toNat) rfl ?_
    refine m_blk 27 [(0, vr 0 0), (1, vi a0), (2, vi a1), (3, vi a2)] [vi a2, vi (A 39 a0.toNat a1.toNat), vi a0, vr 0 0] C f_x_Mo_comeStepT_26_1 rfl ?_
    obtain ⟨q30, e31, h⟩ := obd h
    refine m_callV C Rm Y [vi a0, vi (A 39 a0.toNat a1.toNat), vi a2] [] (x_Mo_worthN 121 l D B H0 ad _ a0 (A 39 a0.toNat a1.toNat) a2 hS _ _ e31) cl_Mo_263 rfl (by decide) rfl rfl e_x_Mo_comeStepT_27 rfl rfl rfl ⟨by show _ ≤ ((fr + 744) : Nat); omega, by show _ ≤ ((lo + 24520) : Nat); omega⟩ ?_
    rintro _ _ ⟨rfl, rfl⟩
    show JM g D ad w0 q30.2 30 [(0, vr 0 0), (1, vi a0), (2, vi a1), (3, vi a2)] [vi q30.1]
    refine m_blk 33 [(4, vi q30.1), (0, vr 0 0), (1, vi a0), (2, vi a1), (3, vi a2)] [vr 0 0] C f_x_Mo_comeStepT_30_2 rfl ?_
    refine m_getr C e_x_Mo_comeStepT_33 fg_Mo_21 rfl (by decide) rfl ?_
    refine m_blk 37 [(4, vi q30.1), (0, vr 0 0), (1, vi a0), (2, vi a1), (3, vi a2)] [vi a0, vr 14 0] C f_x_Mo_comeStepT_36_1 rfl ?_
    have k32 : a0.toNat < 6 := by omega
    refine m_aald C a0.toNat e_x_Mo_comeStepT_37 rfl rfl rfl (by decide) (by decide) c24.1 c24.2 (mz _ _) ?_
    refine m_blk 39 [(4, vi q30.1), (0, vr 0 0), (1, vi a0), (2, vi a1), (3, vi a2)] [vi a1, vr 34 a0.toNat] C f_x_Mo_comeStepT_38_1 rfl ?_
    refine m_iald C e_x_Mo_comeStepT_39 rfl k32 (by decide) c26.1 c26.2 (q30.2 34 a0.toNat a1.toNat) rfl ?_
    obtain ⟨c33, h⟩ := igd h
    by_cases c34 : (q30.2 34 a0.toNat a1.toNat) = 0
    · have h := ifp c34 h
      refine m_tabIn (tgt := 76) C e_x_Mo_comeStepT_40 c33 (by omega) (by omega) (by rw [c34]; rfl) (by decide) ?_
      refine m_blk 78 [(4, vi q30.1), (0, vr 0 0), (1, vi a0), (2, vi a1), (3, vi a2)] [vr 0 0, vr 0 0] C f_x_Mo_comeStepT_76_2 rfl ?_
      refine m_geti C e_x_Mo_comeStepT_78 fg_Mo_403 rfl (by decide) rfl (q30.2 0 0 36) rfl ?_
      refine m_ldcw C 1103515245 e_x_Mo_comeStepT_81 ld_Mo_406 (by decide) ?_
      refine m_blk 89 [(4, vi q30.1), (0, vr 0 0), (1, vi a0), (2, vi a1), (3, vi a2)] [vi (((q30.2 0 0 36) * 1103515245) + 12345), vr 0 0] C f_x_Mo_comeStepT_84_3 rfl ?_
      refine m_puti C e_x_Mo_comeStepT_89 fp_Mo_403 rfl (by decide) rfl ?_
      refine m_blk 93 [(4, vi q30.1), (0, vr 0 0), (1, vi a0), (2, vi a1), (3, vi a2)] [vr 0 0] C f_x_Mo_comeStepT_92_1 rfl ?_
      refine m_geti C e_x_Mo_comeStepT_93 fg_Mo_403 rfl (by decide) rfl (((q30.2 0 0 36) * 1103515245) + 12345) (mu_at q30.2 0 0 36 (((q30.2 0 0 36) * 1103515245) + 12345)) ?_
      refine m_blk 102 [(4, vi q30.1), (0, vr 0 0), (1, vi a0), (2, vi a1), (3, vi a2)] [vi a1, vi a0, vr 0 0, vi (iUsh (((q30.2 0 0 36) * 1103515245) + 12345) 9)] C f_x_Mo_comeStepT_96_5 rfl ?_
      obtain ⟨q35, e36, h⟩ := obd h
      refine m_callV C Rm Y [vi a0, vi a1] [vi (iUsh (((q30.2 0 0 36) * 1103515245) + 12345) 9)] (x_Mo_lotsAll l D B H0 ad _ a0 a1 hS _ _ e36) cl_Mo_232 rfl (by decide) rfl rfl e_x_Mo_comeStepT_102 rfl rfl rfl ⟨by show _ ≤ ((fr + 744) : Nat); omega, by show _ ≤ ((lo + 24520) : Nat); omega⟩ ?_
      rintro _ _ ⟨rfl, rfl⟩
      show JM g D ad w0 q35.2 105 [(4, vi q30.1), (0, vr 0 0), (1, vi a0), (2, vi a1), (3, vi a2)] [vi q35.1, vi (iUsh (((q30.2 0 0 36) * 1103515245) + 12345) 9)]
      obtain ⟨c37, h⟩ := igd h
      obtain ⟨c38, h⟩ := igd h
      refine m_irem C e_x_Mo_comeStepT_105 (iUsh_r _ _) c37 c38 ?_
      refine m_blk 109 [(5, vi (Int.tmod (iUsh (((q30.2 0 0 36) * 1103515245) + 12345) 9) q35.1)), (4, vi q30.1), (0, vr 0 0), (1, vi a0), (2, vi a1), (3, vi a2)] [vr 0 0] C f_x_Mo_comeStepT_106_2 rfl ?_
      refine m_getr C e_x_Mo_comeStepT_109 fg_Mo_39 rfl (by decide) rfl ?_
      refine m_blk 113 [(5, vi (Int.tmod (iUsh (((q30.2 0 0 36) * 1103515245) + 12345) 9) q35.1)), (4, vi q30.1), (0, vr 0 0), (1, vi a0), (2, vi a1), (3, vi a2)] [vi a0, vr 20 0] C f_x_Mo_comeStepT_112_1 rfl ?_
      have k39 : a0.toNat < 6 := by omega
      refine m_aald C a0.toNat e_x_Mo_comeStepT_113 rfl rfl rfl (by decide) (by decide) c24.1 c24.2 (mz _ _) ?_
      refine m_blk 115 [(5, vi (Int.tmod (iUsh (((q30.2 0 0 36) * 1103515245) + 12345) 9) q35.1)), (4, vi q30.1), (0, vr 0 0), (1, vi a0), (2, vi a1), (3, vi a2)] [vi a1, vr 40 a0.toNat] C f_x_Mo_comeStepT_114_1 rfl ?_
      refine m_iald C e_x_Mo_comeStepT_115 rfl k39 (by decide) c26.1 c26.2 (q35.2 40 a0.toNat a1.toNat) rfl ?_
      refine m_blk 118 [(6, vi (q35.2 40 a0.toNat a1.toNat)), (5, vi (Int.tmod (iUsh (((q30.2 0 0 36) * 1103515245) + 12345) 9) q35.1)), (4, vi q30.1), (0, vr 0 0), (1, vi a0), (2, vi a1), (3, vi a2)] [] C f_x_Mo_comeStepT_116_1 rfl ?_
      refine m_loc [(0, vr 0 0), (1, vi a0), (2, vi a1), (3, vi a2), (5, vi (Int.tmod (iUsh (((q30.2 0 0 36) * 1103515245) + 12345) 9) q35.1)), (6, vi (q35.2 40 a0.toNat a1.toNat))] ⟨rfl, rfl, rfl, rfl, rfl, rfl, trivial⟩ ?_
      exact hd_118 _ q35.2 a0 a1 a2 (Int.tmod (iUsh (((q30.2 0 0 36) * 1103515245) + 12345) 9) q35.1) (q35.2 40 a0.toNat a1.toNat)  h
    have h := ifn c34 h
    by_cases c40 : (q30.2 34 a0.toNat a1.toNat) = 1
    · have h := ifp c40 h
      refine m_tabIn (tgt := 174) C e_x_Mo_comeStepT_40 c33 (by omega) (by omega) (by rw [c40]; rfl) (by decide) ?_
      refine m_blk 176 [(4, vi q30.1), (0, vr 0 0), (1, vi a0), (2, vi a1), (3, vi a2)] [vr 0 0, vi a2] C f_x_Mo_comeStepT_174_2 rfl ?_
      refine m_getr C e_x_Mo_comeStepT_176 fg_Mo_24 rfl (by decide) rfl ?_
      refine m_blk 180 [(4, vi q30.1), (0, vr 0 0), (1, vi a0), (2, vi a1), (3, vi a2)] [vi a0, vr 15 0, vi a2] C f_x_Mo_comeStepT_179_1 rfl ?_
      have k41 : a0.toNat < 6 := by omega
      refine m_aald C a0.toNat e_x_Mo_comeStepT_180 rfl rfl rfl (by decide) (by decide) c24.1 c24.2 (mz _ _) ?_
      refine m_blk 182 [(4, vi q30.1), (0, vr 0 0), (1, vi a0), (2, vi a1), (3, vi a2)] [vi a1, vr 35 a0.toNat, vi a2] C f_x_Mo_comeStepT_181_1 rfl ?_
      refine m_iald C e_x_Mo_comeStepT_182 rfl k41 (by decide) c26.1 c26.2 (q30.2 35 a0.toNat a1.toNat) rfl ?_
      refine m_blk 185 [(4, vi q30.1), (0, vr 0 0), (1, vi a0), (2, vi a1), (3, vi a2)] [vi q30.1, vi (q30.2 35 a0.toNat a1.toNat), vi a2] C f_x_Mo_comeStepT_183_1 rfl ?_
      obtain ⟨q42, e43, h⟩ := obd h
      refine m_callS C Rm Y [vi q30.1] [vi (q30.2 35 a0.toNat a1.toNat), vi a2] (x_Mo_digit l D B H0 ad _ q30.1 hS _ _ e43) cl_Mo_333 e_x_Mo_comeStepT_185 rfl rfl rfl ⟨by show _ ≤ ((fr + 744) : Nat); omega, by show _ ≤ ((lo + 24520) : Nat); omega⟩ ?_
      rintro _ _ ⟨rfl, rfl⟩
      show JM g D ad w0 q42.2 188 [(4, vi q30.1), (0, vr 0 0), (1, vi a0), (2, vi a1), (3, vi a2)] [vi q42.1, vi (q30.2 35 a0.toNat a1.toNat), vi a2]
      obtain ⟨q44, e45, h⟩ := obd h
      refine m_callS C Rm Y [vi a2, vi (q30.2 35 a0.toNat a1.toNat), vi q42.1] [] (x_Mo_with l D B H0 ad _ a2 (q30.2 35 a0.toNat a1.toNat) q42.1 hS _ _ e45) cl_Mo_282 e_x_Mo_comeStepT_188 rfl rfl rfl ⟨by show _ ≤ ((fr + 744) : Nat); omega, by show _ ≤ ((lo + 24520) : Nat); omega⟩ ?_
      rintro _ _ ⟨rfl, rfl⟩
      show JM g D ad w0 q44.2 191 [(4, vi q30.1), (0, vr 0 0), (1, vi a0), (2, vi a1), (3, vi a2)] [vi q44.1]
      exact m_iret C Rm E e_x_Mo_comeStepT_191 (fin1 h)
    have h := ifn c40 h
    by_cases c46 : (q30.2 34 a0.toNat a1.toNat) = 2
    · have h := ifp c46 h
      refine m_tabIn (tgt := 192) C e_x_Mo_comeStepT_40 c33 (by omega) (by omega) (by rw [c46]; rfl) (by decide) ?_
      refine m_blk 194 [(4, vi q30.1), (0, vr 0 0), (1, vi a0), (2, vi a1), (3, vi a2)] [vi q30.1] C f_x_Mo_comeStepT_192_1 rfl ?_
      obtain ⟨c47, h⟩ := igd h
      refine m_if_eq (tgt := 201) C e_x_Mo_comeStepT_194 (by decide) c47 (fun c48 => ?_) (fun c48 => ?_)
      · have h := ifp c48 h
        refine m_blk 202 [(4, vi q30.1), (0, vr 0 0), (1, vi a0), (2, vi a1), (3, vi a2)] [vi (-1)] C f_x_Mo_comeStepT_201_1 rfl ?_
        exact m_iret C Rm E e_x_Mo_comeStepT_202 (fin1 h)
      · have h := ifn c48 h
        refine m_blk 202 [(4, vi q30.1), (0, vr 0 0), (1, vi a0), (2, vi a1), (3, vi a2)] [vi a2] C f_x_Mo_comeStepT_197_2 rfl ?_
        exact m_iret C Rm E e_x_Mo_comeStepT_202 (fin1 h)
    have h := ifn c46 h
    by_cases c49 : (q30.2 34 a0.toNat a1.toNat) = 3
    · have h := ifp c49 h
      refine m_tabIn (tgt := 203) C e_x_Mo_comeStepT_40 c33 (by omega) (by omega) (by rw [c49]; rfl) (by decide) ?_
      refine m_blk 205 [(4, vi q30.1), (0, vr 0 0), (1, vi a0), (2, vi a1), (3, vi a2)] [vi q30.1] C f_x_Mo_comeStepT_203_1 rfl ?_
      obtain ⟨c50, h⟩ := igd h
      refine m_if_eq (tgt := 228) C e_x_Mo_comeStepT_205 (by decide) c50 (fun c51 => ?_) (fun c51 => ?_)
      · have h := ifp c51 h
        refine m_blk 231 [(4, vi q30.1), (0, vr 0 0), (1, vi a0), (2, vi a1), (3, vi a2)] [vr 0 0, vi a0, vr 0 0] C f_x_Mo_comeStepT_228_3 rfl ?_
        refine m_getr C e_x_Mo_comeStepT_231 fg_Mo_33 rfl (by decide) rfl ?_
        refine m_blk 235 [(4, vi q30.1), (0, vr 0 0), (1, vi a0), (2, vi a1), (3, vi a2)] [vi a0, vr 18 0, vi a0, vr 0 0] C f_x_Mo_comeStepT_234_1 rfl ?_
        have k52 : a0.toNat < 6 := by omega
        refine m_aald C a0.toNat e_x_Mo_comeStepT_235 rfl rfl rfl (by decide) (by decide) c24.1 c24.2 (mz _ _) ?_
        refine m_blk 237 [(4, vi q30.1), (0, vr 0 0), (1, vi a0), (2, vi a1), (3, vi a2)] [vi a1, vr 38 a0.toNat, vi a0, vr 0 0] C f_x_Mo_comeStepT_236_1 rfl ?_
        refine m_iald C e_x_Mo_comeStepT_237 rfl k52 (by decide) c26.1 c26.2 (q30.2 38 a0.toNat a1.toNat) rfl ?_
        refine m_blk 239 [(4, vi q30.1), (0, vr 0 0), (1, vi a0), (2, vi a1), (3, vi a2)] [vr 0 0, vi (q30.2 38 a0.toNat a1.toNat), vi a0, vr 0 0] C f_x_Mo_comeStepT_238_1 rfl ?_
        refine m_getr C e_x_Mo_comeStepT_239 fg_Mo_30 rfl (by decide) rfl ?_
        refine m_blk 243 [(4, vi q30.1), (0, vr 0 0), (1, vi a0), (2, vi a1), (3, vi a2)] [vi a0, vr 17 0, vi (q30.2 38 a0.toNat a1.toNat), vi a0, vr 0 0] C f_x_Mo_comeStepT_242_1 rfl ?_
        have k53 : a0.toNat < 6 := by omega
        refine m_aald C a0.toNat e_x_Mo_comeStepT_243 rfl rfl rfl (by decide) (by decide) c24.1 c24.2 (mz _ _) ?_
        refine m_blk 245 [(4, vi q30.1), (0, vr 0 0), (1, vi a0), (2, vi a1), (3, vi a2)] [vi a1, vr 37 a0.toNat, vi (q30.2 38 a0.toNat a1.toNat), vi a0, vr 0 0] C f_x_Mo_comeStepT_244_1 rfl ?_
        refine m_iald C e_x_Mo_comeStepT_245 rfl k53 (by decide) c26.1 c26.2 (q30.2 37 a0.toNat a1.toNat) rfl ?_
        refine m_blk 247 [(4, vi q30.1), (0, vr 0 0), (1, vi a0), (2, vi a1), (3, vi a2)] [vi a2, vi (q30.2 37 a0.toNat a1.toNat), vi (q30.2 38 a0.toNat a1.toNat), vi a0, vr 0 0] C f_x_Mo_comeStepT_246_1 rfl ?_
        obtain ⟨q54, e55, h⟩ := obd h
        refine m_callV C Rm Y [vi a0, vi (q30.2 38 a0.toNat a1.toNat), vi (q30.2 37 a0.toNat a1.toNat), vi a2] [] (x_Mo_come hcst l D B H0 ad _ a0 (q30.2 38 a0.toNat a1.toNat) (q30.2 37 a0.toNat a1.toNat) a2 hS _ _ e55) cl_Mo_407 rfl (by decide) rfl rfl e_x_Mo_comeStepT_247 rfl rfl rfl ⟨by show _ ≤ ((fr + 744) : Nat); omega, by show _ ≤ ((lo + 24520) : Nat); omega⟩ ?_
        rintro _ _ ⟨rfl, rfl⟩
        show JM g D ad w0 q54.2 250 [(4, vi q30.1), (0, vr 0 0), (1, vi a0), (2, vi a1), (3, vi a2)] [vi q54.1]
        exact m_iret C Rm E e_x_Mo_comeStepT_250 (fin1 h)
      · have h := ifn c51 h
        refine m_blk 214 [(4, vi q30.1), (0, vr 0 0), (1, vi a0), (2, vi a1), (3, vi a2)] [vr 0 0, vi (a1 + 1), vi a0, vr 0 0] C f_x_Mo_comeStepT_208_6 rfl ?_
        refine m_getr C e_x_Mo_comeStepT_214 fg_Mo_33 rfl (by decide) rfl ?_
        refine m_blk 218 [(4, vi q30.1), (0, vr 0 0), (1, vi a0), (2, vi a1), (3, vi a2)] [vi a0, vr 18 0, vi (a1 + 1), vi a0, vr 0 0] C f_x_Mo_comeStepT_217_1 rfl ?_
        have k56 : a0.toNat < 6 := by omega
        refine m_aald C a0.toNat e_x_Mo_comeStepT_218 rfl rfl rfl (by decide) (by decide) c24.1 c24.2 (mz _ _) ?_
        refine m_blk 220 [(4, vi q30.1), (0, vr 0 0), (1, vi a0), (2, vi a1), (3, vi a2)] [vi a1, vr 38 a0.toNat, vi (a1 + 1), vi a0, vr 0 0] C f_x_Mo_comeStepT_219_1 rfl ?_
        refine m_iald C e_x_Mo_comeStepT_220 rfl k56 (by decide) c26.1 c26.2 (q30.2 38 a0.toNat a1.toNat) rfl ?_
        refine m_blk 222 [(4, vi q30.1), (0, vr 0 0), (1, vi a0), (2, vi a1), (3, vi a2)] [vi a2, vi (q30.2 38 a0.toNat a1.toNat), vi (a1 + 1), vi a0, vr 0 0] C f_x_Mo_comeStepT_221_1 rfl ?_
        obtain ⟨q57, e58, h⟩ := obd h
        refine m_callV C Rm Y [vi a0, vi (a1 + 1), vi (q30.2 38 a0.toNat a1.toNat), vi a2] [] (x_Mo_come hcst l D B H0 ad _ a0 (a1 + 1) (q30.2 38 a0.toNat a1.toNat) a2 hS _ _ e58) cl_Mo_407 rfl (by decide) rfl rfl e_x_Mo_comeStepT_222 rfl rfl rfl ⟨by show _ ≤ ((fr + 744) : Nat); omega, by show _ ≤ ((lo + 24520) : Nat); omega⟩ ?_
        rintro _ _ ⟨rfl, rfl⟩
        show JM g D ad w0 q57.2 225 [(4, vi q30.1), (0, vr 0 0), (1, vi a0), (2, vi a1), (3, vi a2)] [vi q57.1]
        refine m_blk 250 [(4, vi q30.1), (0, vr 0 0), (1, vi a0), (2, vi a1), (3, vi a2)] [vi q57.1] C f_x_Mo_comeStepT_225_1 rfl ?_
        exact m_iret C Rm E e_x_Mo_comeStepT_250 (fin1 h)
    have h := ifn c49 h
    by_cases c59 : (q30.2 34 a0.toNat a1.toNat) = 4
    · have h := ifp c59 h
      refine m_tabIn (tgt := 251) C e_x_Mo_comeStepT_40 c33 (by omega) (by omega) (by rw [c59]; rfl) (by decide) ?_
      refine m_blk 257 [(8, vi 0), (7, vi a2), (4, vi q30.1), (0, vr 0 0), (1, vi a0), (2, vi a1), (3, vi a2)] [] C f_x_Mo_comeStepT_251_4 rfl ?_
      refine m_loc [(0, vr 0 0), (1, vi a0), (2, vi a1), (7, vi a2), (8, vi 0)] ⟨rfl, rfl, rfl, rfl, rfl, trivial⟩ ?_
      exact hd_257 _ q30.2 a0 a1 a2 0  h
    have h := ifn c59 h
    refine m_tabOut (tgt := 305) C e_x_Mo_comeStepT_40 c33 (by omega) (by decide) ?_
    refine m_blk 306 [(4, vi q30.1), (0, vr 0 0), (1, vi a0), (2, vi a1), (3, vi a2)] [vr 0 0] C f_x_Mo_comeStepT_305_1 rfl ?_
    refine m_getr C e_x_Mo_comeStepT_306 fg_Mo_27 rfl (by decide) rfl ?_
    refine m_blk 310 [(4, vi q30.1), (0, vr 0 0), (1, vi a0), (2, vi a1), (3, vi a2)] [vi a0, vr 16 0] C f_x_Mo_comeStepT_309_1 rfl ?_
    have k60 : a0.toNat < 6 := by omega
    refine m_aald C a0.toNat e_x_Mo_comeStepT_310 rfl rfl rfl (by decide) (by decide) c24.1 c24.2 (mz _ _) ?_
    refine m_blk 312 [(4, vi q30.1), (0, vr 0 0), (1, vi a0), (2, vi a1), (3, vi a2)] [vi a1, vr 36 a0.toNat] C f_x_Mo_comeStepT_311_1 rfl ?_
    refine m_iald C e_x_Mo_comeStepT_312 rfl k60 (by decide) c26.1 c26.2 (q30.2 36 a0.toNat a1.toNat) rfl ?_
    refine m_blk 320 [(8, vi (q30.2 36 a0.toNat a1.toNat)), (4, vi q30.1), (0, vr 0 0), (1, vi a0), (2, vi a1), (3, vi a2)] [vr 0 0, vi 0, vi (q30.2 36 a0.toNat a1.toNat), vr 0 0] C f_x_Mo_comeStepT_313_5 rfl ?_
    refine m_getr C e_x_Mo_comeStepT_320 fg_Mo_9 rfl (by decide) rfl ?_
    refine m_blk 325 [(8, vi (q30.2 36 a0.toNat a1.toNat)), (4, vi q30.1), (0, vr 0 0), (1, vi a0), (2, vi a1), (3, vi a2)] [vi (q30.2 36 a0.toNat a1.toNat), vr 5 0, vi 0, vi (q30.2 36 a0.toNat a1.toNat), vr 0 0] C f_x_Mo_comeStepT_323_1 rfl ?_
    obtain ⟨c61, h⟩ := igd h
    refine m_iald C e_x_Mo_comeStepT_325 rfl (by decide) (by decide) c61.1 c61.2 (q30.2 5 0 ((q30.2 36 a0.toNat a1.toNat).toNat)) rfl ?_
    refine m_blk 330 [(8, vi (q30.2 36 a0.toNat a1.toNat)), (4, vi q30.1), (0, vr 0 0), (1, vi a0), (2, vi a1), (3, vi a2)] [vi q30.1, vi 0, vi 0, vi (q30.2 5 0 ((q30.2 36 a0.toNat a1.toNat).toNat)), vi 0, vi (q30.2 36 a0.toNat a1.toNat), vr 0 0] C f_x_Mo_comeStepT_326_3 rfl ?_
    obtain ⟨q62, e63, h⟩ := obd h
    refine m_callS C Rm Y [vi q30.1] [vi 0, vi 0, vi (q30.2 5 0 ((q30.2 36 a0.toNat a1.toNat).toNat)), vi 0, vi (q30.2 36 a0.toNat a1.toNat), vr 0 0] (x_Mo_digit l D B H0 ad _ q30.1 hS _ _ e63) cl_Mo_333 e_x_Mo_comeStepT_330 rfl rfl rfl ⟨by show _ ≤ ((fr + 744) : Nat); omega, by show _ ≤ ((lo + 24520) : Nat); omega⟩ ?_
    rintro _ _ ⟨rfl, rfl⟩
    show JM g D ad w0 q62.2 333 [(8, vi (q30.2 36 a0.toNat a1.toNat)), (4, vi q30.1), (0, vr 0 0), (1, vi a0), (2, vi a1), (3, vi a2)] [vi q62.1, vi 0, vi 0, vi (q30.2 5 0 ((q30.2 36 a0.toNat a1.toNat).toNat)), vi 0, vi (q30.2 36 a0.toNat a1.toNat), vr 0 0]
    obtain ⟨q64, e65, h⟩ := obd h
    refine m_callS C Rm Y [vi 0, vi 0, vi q62.1] [vi (q30.2 5 0 ((q30.2 36 a0.toNat a1.toNat).toNat)), vi 0, vi (q30.2 36 a0.toNat a1.toNat), vr 0 0] (x_Mo_with l D B H0 ad _ 0 0 q62.1 hS _ _ e65) cl_Mo_282 e_x_Mo_comeStepT_333 rfl rfl rfl ⟨by show _ ≤ ((fr + 744) : Nat); omega, by show _ ≤ ((lo + 24520) : Nat); omega⟩ ?_
    rintro _ _ ⟨rfl, rfl⟩
    show JM g D ad w0 q64.2 336 [(8, vi (q30.2 36 a0.toNat a1.toNat)), (4, vi q30.1), (0, vr 0 0), (1, vi a0), (2, vi a1), (3, vi a2)] [vi q64.1, vi (q30.2 5 0 ((q30.2 36 a0.toNat a1.toNat).toNat)), vi 0, vi (q30.2 36 a0.toNat a1.toNat), vr 0 0]
    obtain ⟨q66, e67, h⟩ := obd h
    refine m_callV C Rm Y [vi (q30.2 36 a0.toNat a1.toNat), vi 0, vi (q30.2 5 0 ((q30.2 36 a0.toNat a1.toNat).toNat)), vi q64.1] [] (x_Mo_come hcst l D B H0 ad _ (q30.2 36 a0.toNat a1.toNat) 0 (q30.2 5 0 ((q30.2 36 a0.toNat a1.toNat).toNat)) q64.1 hS _ _ e67) cl_Mo_407 rfl (by decide) rfl rfl e_x_Mo_comeStepT_336 rfl rfl rfl ⟨by show _ ≤ ((fr + 744) : Nat); omega, by show _ ≤ ((lo + 24520) : Nat); omega⟩ ?_
    rintro _ _ ⟨rfl, rfl⟩
    show JM g D ad w0 q66.2 339 [(8, vi (q30.2 36 a0.toNat a1.toNat)), (4, vi q30.1), (0, vr 0 0), (1, vi a0), (2, vi a1), (3, vi a2)] [vi q66.1]
    refine m_blk 344 [(9, vi q66.1), (8, vi (q30.2 36 a0.toNat a1.toNat)), (4, vi q30.1), (0, vr 0 0), (1, vi a0), (2, vi a1), (3, vi a2)] [vi (-1), vi q66.1] C f_x_Mo_comeStepT_339_3 rfl ?_
    obtain ⟨c68, h⟩ := igd h
    refine m_icmp_ne (tgt := 351) C e_x_Mo_comeStepT_344 (by decide) c68 (by decide) (fun c69 => ?_) (fun c69 => ?_)
    · have h := ifn c69 h
      refine m_blk 353 [(9, vi q66.1), (8, vi (q30.2 36 a0.toNat a1.toNat)), (4, vi q30.1), (0, vr 0 0), (1, vi a0), (2, vi a1), (3, vi a2)] [vr 0 0, vi a2] C f_x_Mo_comeStepT_351_2 rfl ?_
      refine m_getr C e_x_Mo_comeStepT_353 fg_Mo_24 rfl (by decide) rfl ?_
      refine m_blk 357 [(9, vi q66.1), (8, vi (q30.2 36 a0.toNat a1.toNat)), (4, vi q30.1), (0, vr 0 0), (1, vi a0), (2, vi a1), (3, vi a2)] [vi a0, vr 15 0, vi a2] C f_x_Mo_comeStepT_356_1 rfl ?_
      have k70 : a0.toNat < 6 := by omega
      refine m_aald C a0.toNat e_x_Mo_comeStepT_357 rfl rfl rfl (by decide) (by decide) c24.1 c24.2 (mz _ _) ?_
      refine m_blk 359 [(9, vi q66.1), (8, vi (q30.2 36 a0.toNat a1.toNat)), (4, vi q30.1), (0, vr 0 0), (1, vi a0), (2, vi a1), (3, vi a2)] [vi a1, vr 35 a0.toNat, vi a2] C f_x_Mo_comeStepT_358_1 rfl ?_
      refine m_iald C e_x_Mo_comeStepT_359 rfl k70 (by decide) c26.1 c26.2 (q66.2 35 a0.toNat a1.toNat) rfl ?_
      refine m_blk 363 [(9, vi q66.1), (8, vi (q30.2 36 a0.toNat a1.toNat)), (4, vi q30.1), (0, vr 0 0), (1, vi a0), (2, vi a1), (3, vi a2)] [vi 0, vi q66.1, vi (q66.2 35 a0.toNat a1.toNat), vi a2] C f_x_Mo_comeStepT_360_2 rfl ?_
      obtain ⟨q71, e72, h⟩ := obd h
      refine m_callS C Rm Y [vi q66.1, vi 0] [vi (q66.2 35 a0.toNat a1.toNat), vi a2] (x_Mo_valueOf l D B H0 ad _ q66.1 0 hS _ _ e72) cl_Mo_260 e_x_Mo_comeStepT_363 rfl rfl rfl ⟨by show _ ≤ ((fr + 744) : Nat); omega, by show _ ≤ ((lo + 24520) : Nat); omega⟩ ?_
      rintro _ _ ⟨rfl, rfl⟩
      show JM g D ad w0 q71.2 366 [(9, vi q66.1), (8, vi (q30.2 36 a0.toNat a1.toNat)), (4, vi q30.1), (0, vr 0 0), (1, vi a0), (2, vi a1), (3, vi a2)] [vi q71.1, vi (q66.2 35 a0.toNat a1.toNat), vi a2]
      obtain ⟨q73, e74, h⟩ := obd h
      refine m_callS C Rm Y [vi a2, vi (q66.2 35 a0.toNat a1.toNat), vi q71.1] [] (x_Mo_with l D B H0 ad _ a2 (q66.2 35 a0.toNat a1.toNat) q71.1 hS _ _ e74) cl_Mo_282 e_x_Mo_comeStepT_366 rfl rfl rfl ⟨by show _ ≤ ((fr + 744) : Nat); omega, by show _ ≤ ((lo + 24520) : Nat); omega⟩ ?_
      rintro _ _ ⟨rfl, rfl⟩
      show JM g D ad w0 q73.2 369 [(9, vi q66.1), (8, vi (q30.2 36 a0.toNat a1.toNat)), (4, vi q30.1), (0, vr 0 0), (1, vi a0), (2, vi a1), (3, vi a2)] [vi q73.1]
      exact m_iret C Rm E e_x_Mo_comeStepT_369 (fin1 h)
    · have h := ifp c69 h
      refine m_blk 369 [(9, vi q66.1), (8, vi (q30.2 36 a0.toNat a1.toNat)), (4, vi q30.1), (0, vr 0 0), (1, vi a0), (2, vi a1), (3, vi a2)] [vi (-1)] C f_x_Mo_comeStepT_347_2 rfl ?_
      exact m_iret C Rm E e_x_Mo_comeStepT_369 (fin1 h)
  · have h := ifp c28 h
    refine m_blk 30 [(0, vr 0 0), (1, vi a0), (2, vi a1), (3, vi a2)] [vi 0] C f_x_Mo_comeStepT_12_2 rfl ?_
    refine m_blk 33 [(4, vi 0), (0, vr 0 0), (1, vi a0), (2, vi a1), (3, vi a2)] [vr 0 0] C f_x_Mo_comeStepT_30_2 rfl ?_
    refine m_getr C e_x_Mo_comeStepT_33 fg_Mo_21 rfl (by decide) rfl ?_
    refine m_blk 37 [(4, vi 0), (0, vr 0 0), (1, vi a0), (2, vi a1), (3, vi a2)] [vi a0, vr 14 0] C f_x_Mo_comeStepT_36_1 rfl ?_
    have k75 : a0.toNat < 6 := by omega
    refine m_aald C a0.toNat e_x_Mo_comeStepT_37 rfl rfl rfl (by decide) (by decide) c24.1 c24.2 (mz _ _) ?_
    refine m_blk 39 [(4, vi 0), (0, vr 0 0), (1, vi a0), (2, vi a1), (3, vi a2)] [vi a1, vr 34 a0.toNat] C f_x_Mo_comeStepT_38_1 rfl ?_
    refine m_iald C e_x_Mo_comeStepT_39 rfl k75 (by decide) c26.1 c26.2 (A 34 a0.toNat a1.toNat) rfl ?_
    obtain ⟨c76, h⟩ := igd h
    by_cases c77 : (A 34 a0.toNat a1.toNat) = 0
    · have h := ifp c77 h
      refine m_tabIn (tgt := 76) C e_x_Mo_comeStepT_40 c76 (by omega) (by omega) (by rw [c77]; rfl) (by decide) ?_
      refine m_blk 78 [(4, vi 0), (0, vr 0 0), (1, vi a0), (2, vi a1), (3, vi a2)] [vr 0 0, vr 0 0] C f_x_Mo_comeStepT_76_2 rfl ?_
      refine m_geti C e_x_Mo_comeStepT_78 fg_Mo_403 rfl (by decide) rfl (A 0 0 36) rfl ?_
      refine m_ldcw C 1103515245 e_x_Mo_comeStepT_81 ld_Mo_406 (by decide) ?_
      refine m_blk 89 [(4, vi 0), (0, vr 0 0), (1, vi a0), (2, vi a1), (3, vi a2)] [vi (((A 0 0 36) * 1103515245) + 12345), vr 0 0] C f_x_Mo_comeStepT_84_3 rfl ?_
      refine m_puti C e_x_Mo_comeStepT_89 fp_Mo_403 rfl (by decide) rfl ?_
      refine m_blk 93 [(4, vi 0), (0, vr 0 0), (1, vi a0), (2, vi a1), (3, vi a2)] [vr 0 0] C f_x_Mo_comeStepT_92_1 rfl ?_
      refine m_geti C e_x_Mo_comeStepT_93 fg_Mo_403 rfl (by decide) rfl (((A 0 0 36) * 1103515245) + 12345) (mu_at A 0 0 36 (((A 0 0 36) * 1103515245) + 12345)) ?_
      refine m_blk 102 [(4, vi 0), (0, vr 0 0), (1, vi a0), (2, vi a1), (3, vi a2)] [vi a1, vi a0, vr 0 0, vi (iUsh (((A 0 0 36) * 1103515245) + 12345) 9)] C f_x_Mo_comeStepT_96_5 rfl ?_
      obtain ⟨q78, e79, h⟩ := obd h
      refine m_callV C Rm Y [vi a0, vi a1] [vi (iUsh (((A 0 0 36) * 1103515245) + 12345) 9)] (x_Mo_lotsAll l D B H0 ad _ a0 a1 hS _ _ e79) cl_Mo_232 rfl (by decide) rfl rfl e_x_Mo_comeStepT_102 rfl rfl rfl ⟨by show _ ≤ ((fr + 744) : Nat); omega, by show _ ≤ ((lo + 24520) : Nat); omega⟩ ?_
      rintro _ _ ⟨rfl, rfl⟩
      show JM g D ad w0 q78.2 105 [(4, vi 0), (0, vr 0 0), (1, vi a0), (2, vi a1), (3, vi a2)] [vi q78.1, vi (iUsh (((A 0 0 36) * 1103515245) + 12345) 9)]
      obtain ⟨c80, h⟩ := igd h
      obtain ⟨c81, h⟩ := igd h
      refine m_irem C e_x_Mo_comeStepT_105 (iUsh_r _ _) c80 c81 ?_
      refine m_blk 109 [(5, vi (Int.tmod (iUsh (((A 0 0 36) * 1103515245) + 12345) 9) q78.1)), (4, vi 0), (0, vr 0 0), (1, vi a0), (2, vi a1), (3, vi a2)] [vr 0 0] C f_x_Mo_comeStepT_106_2 rfl ?_
      refine m_getr C e_x_Mo_comeStepT_109 fg_Mo_39 rfl (by decide) rfl ?_
      refine m_blk 113 [(5, vi (Int.tmod (iUsh (((A 0 0 36) * 1103515245) + 12345) 9) q78.1)), (4, vi 0), (0, vr 0 0), (1, vi a0), (2, vi a1), (3, vi a2)] [vi a0, vr 20 0] C f_x_Mo_comeStepT_112_1 rfl ?_
      have k82 : a0.toNat < 6 := by omega
      refine m_aald C a0.toNat e_x_Mo_comeStepT_113 rfl rfl rfl (by decide) (by decide) c24.1 c24.2 (mz _ _) ?_
      refine m_blk 115 [(5, vi (Int.tmod (iUsh (((A 0 0 36) * 1103515245) + 12345) 9) q78.1)), (4, vi 0), (0, vr 0 0), (1, vi a0), (2, vi a1), (3, vi a2)] [vi a1, vr 40 a0.toNat] C f_x_Mo_comeStepT_114_1 rfl ?_
      refine m_iald C e_x_Mo_comeStepT_115 rfl k82 (by decide) c26.1 c26.2 (q78.2 40 a0.toNat a1.toNat) rfl ?_
      refine m_blk 118 [(6, vi (q78.2 40 a0.toNat a1.toNat)), (5, vi (Int.tmod (iUsh (((A 0 0 36) * 1103515245) + 12345) 9) q78.1)), (4, vi 0), (0, vr 0 0), (1, vi a0), (2, vi a1), (3, vi a2)] [] C f_x_Mo_comeStepT_116_1 rfl ?_
      refine m_loc [(0, vr 0 0), (1, vi a0), (2, vi a1), (3, vi a2), (5, vi (Int.tmod (iUsh (((A 0 0 36) * 1103515245) + 12345) 9) q78.1)), (6, vi (q78.2 40 a0.toNat a1.toNat))] ⟨rfl, rfl, rfl, rfl, rfl, rfl, trivial⟩ ?_
      exact hd_118 _ q78.2 a0 a1 a2 (Int.tmod (iUsh (((A 0 0 36) * 1103515245) + 12345) 9) q78.1) (q78.2 40 a0.toNat a1.toNat)  h
    have h := ifn c77 h
    by_cases c83 : (A 34 a0.toNat a1.toNat) = 1
    · have h := ifp c83 h
      refine m_tabIn (tgt := 174) C e_x_Mo_comeStepT_40 c76 (by omega) (by omega) (by rw [c83]; rfl) (by decide) ?_
      refine m_blk 176 [(4, vi 0), (0, vr 0 0), (1, vi a0), (2, vi a1), (3, vi a2)] [vr 0 0, vi a2] C f_x_Mo_comeStepT_174_2 rfl ?_
      refine m_getr C e_x_Mo_comeStepT_176 fg_Mo_24 rfl (by decide) rfl ?_
      refine m_blk 180 [(4, vi 0), (0, vr 0 0), (1, vi a0), (2, vi a1), (3, vi a2)] [vi a0, vr 15 0, vi a2] C f_x_Mo_comeStepT_179_1 rfl ?_
      have k84 : a0.toNat < 6 := by omega
      refine m_aald C a0.toNat e_x_Mo_comeStepT_180 rfl rfl rfl (by decide) (by decide) c24.1 c24.2 (mz _ _) ?_
      refine m_blk 182 [(4, vi 0), (0, vr 0 0), (1, vi a0), (2, vi a1), (3, vi a2)] [vi a1, vr 35 a0.toNat, vi a2] C f_x_Mo_comeStepT_181_1 rfl ?_
      refine m_iald C e_x_Mo_comeStepT_182 rfl k84 (by decide) c26.1 c26.2 (A 35 a0.toNat a1.toNat) rfl ?_
      refine m_blk 185 [(4, vi 0), (0, vr 0 0), (1, vi a0), (2, vi a1), (3, vi a2)] [vi 0, vi (A 35 a0.toNat a1.toNat), vi a2] C f_x_Mo_comeStepT_183_1 rfl ?_
      obtain ⟨q85, e86, h⟩ := obd h
      refine m_callS C Rm Y [vi 0] [vi (A 35 a0.toNat a1.toNat), vi a2] (x_Mo_digit l D B H0 ad _ 0 hS _ _ e86) cl_Mo_333 e_x_Mo_comeStepT_185 rfl rfl rfl ⟨by show _ ≤ ((fr + 744) : Nat); omega, by show _ ≤ ((lo + 24520) : Nat); omega⟩ ?_
      rintro _ _ ⟨rfl, rfl⟩
      show JM g D ad w0 q85.2 188 [(4, vi 0), (0, vr 0 0), (1, vi a0), (2, vi a1), (3, vi a2)] [vi q85.1, vi (A 35 a0.toNat a1.toNat), vi a2]
      obtain ⟨q87, e88, h⟩ := obd h
      refine m_callS C Rm Y [vi a2, vi (A 35 a0.toNat a1.toNat), vi q85.1] [] (x_Mo_with l D B H0 ad _ a2 (A 35 a0.toNat a1.toNat) q85.1 hS _ _ e88) cl_Mo_282 e_x_Mo_comeStepT_188 rfl rfl rfl ⟨by show _ ≤ ((fr + 744) : Nat); omega, by show _ ≤ ((lo + 24520) : Nat); omega⟩ ?_
      rintro _ _ ⟨rfl, rfl⟩
      show JM g D ad w0 q87.2 191 [(4, vi 0), (0, vr 0 0), (1, vi a0), (2, vi a1), (3, vi a2)] [vi q87.1]
      exact m_iret C Rm E e_x_Mo_comeStepT_191 (fin1 h)
    have h := ifn c83 h
    by_cases c89 : (A 34 a0.toNat a1.toNat) = 2
    · have h := ifp c89 h
      refine m_tabIn (tgt := 192) C e_x_Mo_comeStepT_40 c76 (by omega) (by omega) (by rw [c89]; rfl) (by decide) ?_
      refine m_blk 194 [(4, vi 0), (0, vr 0 0), (1, vi a0), (2, vi a1), (3, vi a2)] [vi 0] C f_x_Mo_comeStepT_192_1 rfl ?_
      refine m_if_eq (tgt := 201) C e_x_Mo_comeStepT_194 (by decide) (by decide) (fun c90 => ?_) (fun c90 => (by omega : False).elim)
      refine m_blk 202 [(4, vi 0), (0, vr 0 0), (1, vi a0), (2, vi a1), (3, vi a2)] [vi (-1)] C f_x_Mo_comeStepT_201_1 rfl ?_
      exact m_iret C Rm E e_x_Mo_comeStepT_202 (fin1 h)
    have h := ifn c89 h
    by_cases c91 : (A 34 a0.toNat a1.toNat) = 3
    · have h := ifp c91 h
      refine m_tabIn (tgt := 203) C e_x_Mo_comeStepT_40 c76 (by omega) (by omega) (by rw [c91]; rfl) (by decide) ?_
      refine m_blk 205 [(4, vi 0), (0, vr 0 0), (1, vi a0), (2, vi a1), (3, vi a2)] [vi 0] C f_x_Mo_comeStepT_203_1 rfl ?_
      refine m_if_eq (tgt := 228) C e_x_Mo_comeStepT_205 (by decide) (by decide) (fun c92 => ?_) (fun c92 => (by omega : False).elim)
      refine m_blk 231 [(4, vi 0), (0, vr 0 0), (1, vi a0), (2, vi a1), (3, vi a2)] [vr 0 0, vi a0, vr 0 0] C f_x_Mo_comeStepT_228_3 rfl ?_
      refine m_getr C e_x_Mo_comeStepT_231 fg_Mo_33 rfl (by decide) rfl ?_
      refine m_blk 235 [(4, vi 0), (0, vr 0 0), (1, vi a0), (2, vi a1), (3, vi a2)] [vi a0, vr 18 0, vi a0, vr 0 0] C f_x_Mo_comeStepT_234_1 rfl ?_
      have k93 : a0.toNat < 6 := by omega
      refine m_aald C a0.toNat e_x_Mo_comeStepT_235 rfl rfl rfl (by decide) (by decide) c24.1 c24.2 (mz _ _) ?_
      refine m_blk 237 [(4, vi 0), (0, vr 0 0), (1, vi a0), (2, vi a1), (3, vi a2)] [vi a1, vr 38 a0.toNat, vi a0, vr 0 0] C f_x_Mo_comeStepT_236_1 rfl ?_
      refine m_iald C e_x_Mo_comeStepT_237 rfl k93 (by decide) c26.1 c26.2 (A 38 a0.toNat a1.toNat) rfl ?_
      refine m_blk 239 [(4, vi 0), (0, vr 0 0), (1, vi a0), (2, vi a1), (3, vi a2)] [vr 0 0, vi (A 38 a0.toNat a1.toNat), vi a0, vr 0 0] C f_x_Mo_comeStepT_238_1 rfl ?_
      refine m_getr C e_x_Mo_comeStepT_239 fg_Mo_30 rfl (by decide) rfl ?_
      refine m_blk 243 [(4, vi 0), (0, vr 0 0), (1, vi a0), (2, vi a1), (3, vi a2)] [vi a0, vr 17 0, vi (A 38 a0.toNat a1.toNat), vi a0, vr 0 0] C f_x_Mo_comeStepT_242_1 rfl ?_
      have k94 : a0.toNat < 6 := by omega
      refine m_aald C a0.toNat e_x_Mo_comeStepT_243 rfl rfl rfl (by decide) (by decide) c24.1 c24.2 (mz _ _) ?_
      refine m_blk 245 [(4, vi 0), (0, vr 0 0), (1, vi a0), (2, vi a1), (3, vi a2)] [vi a1, vr 37 a0.toNat, vi (A 38 a0.toNat a1.toNat), vi a0, vr 0 0] C f_x_Mo_comeStepT_244_1 rfl ?_
      refine m_iald C e_x_Mo_comeStepT_245 rfl k94 (by decide) c26.1 c26.2 (A 37 a0.toNat a1.toNat) rfl ?_
      refine m_blk 247 [(4, vi 0), (0, vr 0 0), (1, vi a0), (2, vi a1), (3, vi a2)] [vi a2, vi (A 37 a0.toNat a1.toNat), vi (A 38 a0.toNat a1.toNat), vi a0, vr 0 0] C f_x_Mo_comeStepT_246_1 rfl ?_
      obtain ⟨q95, e96, h⟩ := obd h
      refine m_callV C Rm Y [vi a0, vi (A 38 a0.toNat a1.toNat), vi (A 37 a0.toNat a1.toNat), vi a2] [] (x_Mo_come hcst l D B H0 ad _ a0 (A 38 a0.toNat a1.toNat) (A 37 a0.toNat a1.toNat) a2 hS _ _ e96) cl_Mo_407 rfl (by decide) rfl rfl e_x_Mo_comeStepT_247 rfl rfl rfl ⟨by show _ ≤ ((fr + 744) : Nat); omega, by show _ ≤ ((lo + 24520) : Nat); omega⟩ ?_
      rintro _ _ ⟨rfl, rfl⟩
      show JM g D ad w0 q95.2 250 [(4, vi 0), (0, vr 0 0), (1, vi a0), (2, vi a1), (3, vi a2)] [vi q95.1]
      exact m_iret C Rm E e_x_Mo_comeStepT_250 (fin1 h)
    have h := ifn c91 h
    by_cases c97 : (A 34 a0.toNat a1.toNat) = 4
    · have h := ifp c97 h
      refine m_tabIn (tgt := 251) C e_x_Mo_comeStepT_40 c76 (by omega) (by omega) (by rw [c97]; rfl) (by decide) ?_
      refine m_blk 257 [(8, vi 0), (7, vi a2), (4, vi 0), (0, vr 0 0), (1, vi a0), (2, vi a1), (3, vi a2)] [] C f_x_Mo_comeStepT_251_4 rfl ?_
      refine m_loc [(0, vr 0 0), (1, vi a0), (2, vi a1), (7, vi a2), (8, vi 0)] ⟨rfl, rfl, rfl, rfl, rfl, trivial⟩ ?_
      exact hd_257 _ A a0 a1 a2 0  h
    have h := ifn c97 h
    refine m_tabOut (tgt := 305) C e_x_Mo_comeStepT_40 c76 (by omega) (by decide) ?_
    refine m_blk 306 [(4, vi 0), (0, vr 0 0), (1, vi a0), (2, vi a1), (3, vi a2)] [vr 0 0] C f_x_Mo_comeStepT_305_1 rfl ?_
    refine m_getr C e_x_Mo_comeStepT_306 fg_Mo_27 rfl (by decide) rfl ?_
    refine m_blk 310 [(4, vi 0), (0, vr 0 0), (1, vi a0), (2, vi a1), (3, vi a2)] [vi a0, vr 16 0] C f_x_Mo_comeStepT_309_1 rfl ?_
    have k98 : a0.toNat < 6 := by omega
    refine m_aald C a0.toNat e_x_Mo_comeStepT_310 rfl rfl rfl (by decide) (by decide) c24.1 c24.2 (mz _ _) ?_
    refine m_blk 312 [(4, vi 0), (0, vr 0 0), (1, vi a0), (2, vi a1), (3, vi a2)] [vi a1, vr 36 a0.toNat] C f_x_Mo_comeStepT_311_1 rfl ?_
    refine m_iald C e_x_Mo_comeStepT_312 rfl k98 (by decide) c26.1 c26.2 (A 36 a0.toNat a1.toNat) rfl ?_
    refine m_blk 320 [(8, vi (A 36 a0.toNat a1.toNat)), (4, vi 0), (0, vr 0 0), (1, vi a0), (2, vi a1), (3, vi a2)] [vr 0 0, vi 0, vi (A 36 a0.toNat a1.toNat), vr 0 0] C f_x_Mo_comeStepT_313_5 rfl ?_
    refine m_getr C e_x_Mo_comeStepT_320 fg_Mo_9 rfl (by decide) rfl ?_
    refine m_blk 325 [(8, vi (A 36 a0.toNat a1.toNat)), (4, vi 0), (0, vr 0 0), (1, vi a0), (2, vi a1), (3, vi a2)] [vi (A 36 a0.toNat a1.toNat), vr 5 0, vi 0, vi (A 36 a0.toNat a1.toNat), vr 0 0] C f_x_Mo_comeStepT_323_1 rfl ?_
    obtain ⟨c99, h⟩ := igd h
    refine m_iald C e_x_Mo_comeStepT_325 rfl (by decide) (by decide) c99.1 c99.2 (A 5 0 ((A 36 a0.toNat a1.toNat).toNat)) rfl ?_
    refine m_blk 330 [(8, vi (A 36 a0.toNat a1.toNat)), (4, vi 0), (0, vr 0 0), (1, vi a0), (2, vi a1), (3, vi a2)] [vi 0, vi 0, vi 0, vi (A 5 0 ((A 36 a0.toNat a1.toNat).toNat)), vi 0, vi (A 36 a0.toNat a1.toNat), vr 0 0] C f_x_Mo_comeStepT_326_3 rfl ?_
    obtain ⟨q100, e101, h⟩ := obd h
    refine m_callS C Rm Y [vi 0] [vi 0, vi 0, vi (A 5 0 ((A 36 a0.toNat a1.toNat).toNat)), vi 0, vi (A 36 a0.toNat a1.toNat), vr 0 0] (x_Mo_digit l D B H0 ad _ 0 hS _ _ e101) cl_Mo_333 e_x_Mo_comeStepT_330 rfl rfl rfl ⟨by show _ ≤ ((fr + 744) : Nat); omega, by show _ ≤ ((lo + 24520) : Nat); omega⟩ ?_
    rintro _ _ ⟨rfl, rfl⟩
    show JM g D ad w0 q100.2 333 [(8, vi (A 36 a0.toNat a1.toNat)), (4, vi 0), (0, vr 0 0), (1, vi a0), (2, vi a1), (3, vi a2)] [vi q100.1, vi 0, vi 0, vi (A 5 0 ((A 36 a0.toNat a1.toNat).toNat)), vi 0, vi (A 36 a0.toNat a1.toNat), vr 0 0]
    obtain ⟨q102, e103, h⟩ := obd h
    refine m_callS C Rm Y [vi 0, vi 0, vi q100.1] [vi (A 5 0 ((A 36 a0.toNat a1.toNat).toNat)), vi 0, vi (A 36 a0.toNat a1.toNat), vr 0 0] (x_Mo_with l D B H0 ad _ 0 0 q100.1 hS _ _ e103) cl_Mo_282 e_x_Mo_comeStepT_333 rfl rfl rfl ⟨by show _ ≤ ((fr + 744) : Nat); omega, by show _ ≤ ((lo + 24520) : Nat); omega⟩ ?_
    rintro _ _ ⟨rfl, rfl⟩
    show JM g D ad w0 q102.2 336 [(8, vi (A 36 a0.toNat a1.toNat)), (4, vi 0), (0, vr 0 0), (1, vi a0), (2, vi a1), (3, vi a2)] [vi q102.1, vi (A 5 0 ((A 36 a0.toNat a1.toNat).toNat)), vi 0, vi (A 36 a0.toNat a1.toNat), vr 0 0]
    obtain ⟨q104, e105, h⟩ := obd h
    refine m_callV C Rm Y [vi (A 36 a0.toNat a1.toNat), vi 0, vi (A 5 0 ((A 36 a0.toNat a1.toNat).toNat)), vi q102.1] [] (x_Mo_come hcst l D B H0 ad _ (A 36 a0.toNat a1.toNat) 0 (A 5 0 ((A 36 a0.toNat a1.toNat).toNat)) q102.1 hS _ _ e105) cl_Mo_407 rfl (by decide) rfl rfl e_x_Mo_comeStepT_336 rfl rfl rfl ⟨by show _ ≤ ((fr + 744) : Nat); omega, by show _ ≤ ((lo + 24520) : Nat); omega⟩ ?_
    rintro _ _ ⟨rfl, rfl⟩
    show JM g D ad w0 q104.2 339 [(8, vi (A 36 a0.toNat a1.toNat)), (4, vi 0), (0, vr 0 0), (1, vi a0), (2, vi a1), (3, vi a2)] [vi q104.1]
    refine m_blk 344 [(9, vi q104.1), (8, vi (A 36 a0.toNat a1.toNat)), (4, vi 0), (0, vr 0 0), (1, vi a0), (2, vi a1), (3, vi a2)] [vi (-1), vi q104.1] C f_x_Mo_comeStepT_339_3 rfl ?_
    obtain ⟨c106, h⟩ := igd h
    refine m_icmp_ne (tgt := 351) C e_x_Mo_comeStepT_344 (by decide) c106 (by decide) (fun c107 => ?_) (fun c107 => ?_)
    · have h := ifn c107 h
      refine m_blk 353 [(9, vi q104.1), (8, vi (A 36 a0.toNat a1.toNat)), (4, vi 0), (0, vr 0 0), (1, vi a0), (2, vi a1), (3, vi a2)] [vr 0 0, vi a2] C f_x_Mo_comeStepT_351_2 rfl ?_
      refine m_getr C e_x_Mo_comeStepT_353 fg_Mo_24 rfl (by decide) rfl ?_
      refine m_blk 357 [(9, vi q104.1), (8, vi (A 36 a0.toNat a1.toNat)), (4, vi 0), (0, vr 0 0), (1, vi a0), (2, vi a1), (3, vi a2)] [vi a0, vr 15 0, vi a2] C f_x_Mo_comeStepT_356_1 rfl ?_
      have k108 : a0.toNat < 6 := by omega
      refine m_aald C a0.toNat e_x_Mo_comeStepT_357 rfl rfl rfl (by decide) (by decide) c24.1 c24.2 (mz _ _) ?_
      refine m_blk 359 [(9, vi q104.1), (8, vi (A 36 a0.toNat a1.toNat)), (4, vi 0), (0, vr 0 0), (1, vi a0), (2, vi a1), (3, vi a2)] [vi a1, vr 35 a0.toNat, vi a2] C f_x_Mo_comeStepT_358_1 rfl ?_
      refine m_iald C e_x_Mo_comeStepT_359 rfl k108 (by decide) c26.1 c26.2 (q104.2 35 a0.toNat a1.toNat) rfl ?_
      refine m_blk 363 [(9, vi q104.1), (8, vi (A 36 a0.toNat a1.toNat)), (4, vi 0), (0, vr 0 0), (1, vi a0), (2, vi a1), (3, vi a2)] [vi 0, vi q104.1, vi (q104.2 35 a0.toNat a1.toNat), vi a2] C f_x_Mo_comeStepT_360_2 rfl ?_
      obtain ⟨q109, e110, h⟩ := obd h
      refine m_callS C Rm Y [vi q104.1, vi 0] [vi (q104.2 35 a0.toNat a1.toNat), vi a2] (x_Mo_valueOf l D B H0 ad _ q104.1 0 hS _ _ e110) cl_Mo_260 e_x_Mo_comeStepT_363 rfl rfl rfl ⟨by show _ ≤ ((fr + 744) : Nat); omega, by show _ ≤ ((lo + 24520) : Nat); omega⟩ ?_
      rintro _ _ ⟨rfl, rfl⟩
      show JM g D ad w0 q109.2 366 [(9, vi q104.1), (8, vi (A 36 a0.toNat a1.toNat)), (4, vi 0), (0, vr 0 0), (1, vi a0), (2, vi a1), (3, vi a2)] [vi q109.1, vi (q104.2 35 a0.toNat a1.toNat), vi a2]
      obtain ⟨q111, e112, h⟩ := obd h
      refine m_callS C Rm Y [vi a2, vi (q104.2 35 a0.toNat a1.toNat), vi q109.1] [] (x_Mo_with l D B H0 ad _ a2 (q104.2 35 a0.toNat a1.toNat) q109.1 hS _ _ e112) cl_Mo_282 e_x_Mo_comeStepT_366 rfl rfl rfl ⟨by show _ ≤ ((fr + 744) : Nat); omega, by show _ ≤ ((lo + 24520) : Nat); omega⟩ ?_
      rintro _ _ ⟨rfl, rfl⟩
      show JM g D ad w0 q111.2 369 [(9, vi q104.1), (8, vi (A 36 a0.toNat a1.toNat)), (4, vi 0), (0, vr 0 0), (1, vi a0), (2, vi a1), (3, vi a2)] [vi q111.1]
      exact m_iret C Rm E e_x_Mo_comeStepT_369 (fin1 h)
    · have h := ifp c107 h
      refine m_blk 369 [(9, vi q104.1), (8, vi (A 36 a0.toNat a1.toNat)), (4, vi 0), (0, vr 0 0), (1, vi a0), (2, vi a1), (3, vi a2)] [vi (-1)] C f_x_Mo_comeStepT_347_2 rfl ?_
      exact m_iret C Rm E e_x_Mo_comeStepT_369 (fin1 h)

def f_Mo_csN : Nat → mA → Int → Int → Int → Option (Int × mA)
  | 0, _, _, _, _ => none
  | n + 1, A, a0, a1, a2 => f_Mo_comeStepT (f_Mo_csN n) A a0 a1 a2
theorem x_Mo_csN : ∀ n : Nat, ∀ (l : Launch) (D : va_G) (B : Nat) (H0 : Heap) (ad : mAd) (A : mA) (a0 : Int) (a1 : Int) (a2 : Int) (hS : mStr D ad) (r9 : Int) (A9 : mA), f_Mo_csN n A a0 a1 a2 = some (r9, A9) → mMet l D B H0 ad y_Mo_comeStep b_Mo_comeStep 10 (some .int) (4 * n + 740) (120 * n + 24400) [vr 0 0, vi a0, vi a1, vi a2] A (fun v A' => v = some (vi r9) ∧ A' = A9) := by
  intro n
  induction n with
  | zero => intro l D B H0 ad A a0 a1 a2 hS r9 A9 h; cases h
  | succ n ih =>
    intro l D B H0 ad A a0 a1 a2 hS r9 A9 h
    have k := x_Mo_comeStepT ih l D B H0 ad A a0 a1 a2 hS r9 A9 h
    have e1 : 4 * (n + 1) + 740 = 4 * n + 744 := by omega
    have e2 : 120 * (n + 1) + 24400 = 120 * n + 24520 := by omega
    rw [e1, e2]
    exact k
def f_Mo_comesBy (A : mA) (a0 : Int) (a1 : Int) : Option (Int × mA) := (if (0 ≤ a0 ∧ a0 < ((6 : Nat) : Int)) then (Option.bind (f_Mo_startState (mu A 0 0 36 a1) ) (fun q2 => (Option.bind (f_Mo_come (f_Mo_csN 40) q2.2 a0 0 (A 5 0 a0.toNat) q2.1) (fun q4 => (some (q4.1, q4.2)))))) else none)
theorem f_x_Mo_comesBy_0_2 : mblkB b_Mo_comesBy [(0, .aload_n 0, vi 0), (1, .iload_n 2, vi 0)] = true := by decide +kernel
theorem e_x_Mo_comesBy_2 : decode b_Mo_comesBy 2 = .ok (.putfield 403, 3) := by decide +kernel
theorem f_x_Mo_comesBy_5_4 : mblkB b_Mo_comesBy [(5, .aload_n 0, vi 0), (6, .iload_n 1, vi 0), (7, .iconst 0, vi 0), (8, .aload_n 0, vi 0)] = true := by decide +kernel
theorem e_x_Mo_comesBy_9 : decode b_Mo_comesBy 9 = .ok (.getfield 9, 3) := by decide +kernel
theorem f_x_Mo_comesBy_12_1 : mblkB b_Mo_comesBy [(12, .iload_n 1, vi 0)] = true := by decide +kernel
theorem e_x_Mo_comesBy_13 : decode b_Mo_comesBy 13 = .ok (.iaload, 1) := by decide +kernel
theorem f_x_Mo_comesBy_14_1 : mblkB b_Mo_comesBy [(14, .aload_n 0, vi 0)] = true := by decide +kernel
theorem e_x_Mo_comesBy_15 : decode b_Mo_comesBy 15 = .ok (.invokevirtual 358, 3) := by decide +kernel
theorem e_x_Mo_comesBy_18 : decode b_Mo_comesBy 18 = .ok (.invokevirtual 407, 3) := by decide +kernel
theorem e_x_Mo_comesBy_21 : decode b_Mo_comesBy 21 = .ok (.ireturn, 1) := by decide +kernel
set_option maxHeartbeats 4000000 in
set_option maxRecDepth 20000 in
theorem x_Mo_comesBy  : ∀ (l : Launch) (D : va_G) (B : Nat) (H0 : Heap) (ad : mAd) (A : mA) (a0 : Int) (a1 : Int) (hS : mStr D ad) (r9 : Int) (A9 : mA), f_Mo_comesBy  A a0 a1 = some (r9, A9) → mMet l D B H0 ad y_Mo_comesBy b_Mo_comesBy 3 (some .int) 903 29286 [vr 0 0, vi a0, vi a1] A (fun v A' => v = some (vi r9) ∧ A' = A9) := by
  intro l D B H0 ad A a0 a1  hS r9 A9 h
  refine m_met (by decide) rfl (fun g w0 C Rm Y E => ?_)
  show JM g D ad w0 A 0 [(0, vr 0 0), (1, vi a0), (2, vi a1)] []
  unfold f_Mo_comesBy at h
  refine m_blk 2 [(0, vr 0 0), (1, vi a0), (2, vi a1)] [vi a1, vr 0 0] C f_x_Mo_comesBy_0_2 rfl ?_
  refine m_puti C e_x_Mo_comesBy_2 fp_Mo_403 rfl (by decide) rfl ?_
  refine m_blk 9 [(0, vr 0 0), (1, vi a0), (2, vi a1)] [vr 0 0, vi 0, vi a0, vr 0 0] C f_x_Mo_comesBy_5_4 rfl ?_
  refine m_getr C e_x_Mo_comesBy_9 fg_Mo_9 rfl (by decide) rfl ?_
  refine m_blk 13 [(0, vr 0 0), (1, vi a0), (2, vi a1)] [vi a0, vr 5 0, vi 0, vi a0, vr 0 0] C f_x_Mo_comesBy_12_1 rfl ?_
  obtain ⟨c1, h⟩ := igd h
  refine m_iald C e_x_Mo_comesBy_13 rfl (by decide) (by decide) c1.1 c1.2 (A 5 0 a0.toNat) rfl ?_
  refine m_blk 15 [(0, vr 0 0), (1, vi a0), (2, vi a1)] [vr 0 0, vi (A 5 0 a0.toNat), vi 0, vi a0, vr 0 0] C f_x_Mo_comesBy_14_1 rfl ?_
  obtain ⟨q2, e3, h⟩ := obd h
  refine m_callV C Rm Y [] [vi (A 5 0 a0.toNat), vi 0, vi a0, vr 0 0] (x_Mo_startState l D B H0 ad _  hS _ _ e3) cl_Mo_358 rfl (by decide) rfl rfl e_x_Mo_comesBy_15 rfl rfl rfl ⟨by decide, by decide⟩ ?_
  rintro _ _ ⟨rfl, rfl⟩
  show JM g D ad w0 q2.2 18 [(0, vr 0 0), (1, vi a0), (2, vi a1)] [vi q2.1, vi (A 5 0 a0.toNat), vi 0, vi a0, vr 0 0]
  obtain ⟨q4, e5, h⟩ := obd h
  refine m_callV C Rm Y [vi a0, vi 0, vi (A 5 0 a0.toNat), vi q2.1] [] (x_Mo_come (x_Mo_csN 40) l D B H0 ad _ a0 0 (A 5 0 a0.toNat) q2.1 hS _ _ e5) cl_Mo_407 rfl (by decide) rfl rfl e_x_Mo_comesBy_18 rfl rfl rfl ⟨by decide, by decide⟩ ?_
  rintro _ _ ⟨rfl, rfl⟩
  show JM g D ad w0 q4.2 21 [(0, vr 0 0), (1, vi a0), (2, vi a1)] [vi q4.1]
  exact m_iret C Rm E e_x_Mo_comesBy_21 (fin1 h)

def f_Mo_comes (A : mA) (a0 : Int) (a1 : Int) : Option (Int × mA) := (Option.bind (f_Mo_isProgram A a0) (fun q1 => (if g32 q1.1 then (if q1.1 = 0 then (some ((-2), q1.2)) else (Option.bind (f_Mo_comesBy q1.2 a0 a1) (fun q5 => (some (q5.1, q5.2))))) else none)))
theorem f_x_Mo_comes_0_2 : mblkB b_Mo_comes [(0, .aload_n 0, vi 0), (1, .iload_n 1, vi 0)] = true := by decide +kernel
theorem e_x_Mo_comes_2 : decode b_Mo_comes 2 = .ok (.invokevirtual 364, 3) := by decide +kernel
theorem e_x_Mo_comes_5 : decode b_Mo_comes 5 = .ok (.ifCond .eq 12, 3) := by decide +kernel
theorem f_x_Mo_comes_17_1 : mblkB b_Mo_comes [(17, .bipush (-2), vi (-2))] = true := by decide +kernel
theorem e_x_Mo_comes_19 : decode b_Mo_comes 19 = .ok (.ireturn, 1) := by decide +kernel
theorem f_x_Mo_comes_8_3 : mblkB b_Mo_comes [(8, .aload_n 0, vi 0), (9, .iload_n 1, vi 0), (10, .iload_n 2, vi 0)] = true := by decide +kernel
theorem e_x_Mo_comes_11 : decode b_Mo_comes 11 = .ok (.invokevirtual 409, 3) := by decide +kernel
theorem f_x_Mo_comes_14_1 : mblkB b_Mo_comes [(14, .goto 5, vi 19)] = true := by decide +kernel
set_option maxHeartbeats 4000000 in
set_option maxRecDepth 20000 in
theorem x_Mo_comes  : ∀ (l : Launch) (D : va_G) (B : Nat) (H0 : Heap) (ad : mAd) (A : mA) (a0 : Int) (a1 : Int) (hS : mStr D ad) (r9 : Int) (A9 : mA), f_Mo_comes  A a0 a1 = some (r9, A9) → mMet l D B H0 ad y_Mo_comes b_Mo_comes 3 (some .int) 904 29308 [vr 0 0, vi a0, vi a1] A (fun v A' => v = some (vi r9) ∧ A' = A9) := by
  intro l D B H0 ad A a0 a1  hS r9 A9 h
  refine m_met (by decide) rfl (fun g w0 C Rm Y E => ?_)
  show JM g D ad w0 A 0 [(0, vr 0 0), (1, vi a0), (2, vi a1)] []
  unfold f_Mo_comes at h
  refine m_blk 2 [(0, vr 0 0), (1, vi a0), (2, vi a1)] [vi a0, vr 0 0] C f_x_Mo_comes_0_2 rfl ?_
  obtain ⟨q1, e2, h⟩ := obd h
  refine m_callV C Rm Y [vi a0] [] (x_Mo_isProgram l D B H0 ad _ a0 hS _ _ e2) cl_Mo_364 rfl (by decide) rfl rfl e_x_Mo_comes_2 rfl rfl rfl ⟨by decide, by decide⟩ ?_
  rintro _ _ ⟨rfl, rfl⟩
  show JM g D ad w0 q1.2 5 [(0, vr 0 0), (1, vi a0), (2, vi a1)] [vi q1.1]
  obtain ⟨c3, h⟩ := igd h
  refine m_if_eq (tgt := 17) C e_x_Mo_comes_5 (by decide) c3 (fun c4 => ?_) (fun c4 => ?_)
  · have h := ifp c4 h
    refine m_blk 19 [(0, vr 0 0), (1, vi a0), (2, vi a1)] [vi (-2)] C f_x_Mo_comes_17_1 rfl ?_
    exact m_iret C Rm E e_x_Mo_comes_19 (fin1 h)
  · have h := ifn c4 h
    refine m_blk 11 [(0, vr 0 0), (1, vi a0), (2, vi a1)] [vi a1, vi a0, vr 0 0] C f_x_Mo_comes_8_3 rfl ?_
    obtain ⟨q5, e6, h⟩ := obd h
    refine m_callV C Rm Y [vi a0, vi a1] [] (x_Mo_comesBy l D B H0 ad _ a0 a1 hS _ _ e6) cl_Mo_409 rfl (by decide) rfl rfl e_x_Mo_comes_11 rfl rfl rfl ⟨by decide, by decide⟩ ?_
    rintro _ _ ⟨rfl, rfl⟩
    show JM g D ad w0 q5.2 14 [(0, vr 0 0), (1, vi a0), (2, vi a1)] [vi q5.1]
    refine m_blk 19 [(0, vr 0 0), (1, vi a0), (2, vi a1)] [vi q5.1] C f_x_Mo_comes_14_1 rfl ?_
    exact m_iret C Rm E e_x_Mo_comes_19 (fin1 h)

