/-! program() of the class, once its Program stands (own work, partly by program) -/
section HX
variable {g : jG} {D : va_G} {G : tG} {q : Nat × Nat} {A : mA} {cc : ByteArray} {nL pc : Nat} {own : String} {L : List (Nat × mV)} {st : List mV} {l : Launch} {B : Nat} {H0 : Heap} {y0 : MethodName} {rm : Room}
theorem h_callVX {post : Option mV → mA → Prop} (C : jX g cc nL own D) {k0 n0 : Nat} (Rm : jRm g k0 n0 rm) (Y : jY g l B H0 y0) (hq1 : q.1 ≤ k0 + rm.cells ∧ q.2 ≤ n0 + rm.slots) {idx n maxL fr lo τ a ci : Nat} {fs : List vT} {r : vw_C} {y : MethodName} {bytes : ByteArray} {ret : Option FieldType} (As rest : List mV) (hM : hMet l D B H0 G y bytes maxL ret fr lo (vr τ a :: As) A post) (hc : jcV own idx y bytes maxL ret n) (hg : G a = some τ) (ho : tyO τ = some (ci, fs)) (hci : vwCl[ci]? = some r) (hrc : r.1 = y.cls) (hd : decode cc pc = .ok (.invokevirtual idx, 3)) (hn : As.length = n) (hst : st = As.reverse ++ vr τ a :: rest) (h8 : Nat.ble (mcsum rest) 8 = true) (hR : fr + 1 ≤ rm.frames ∧ 8 + (maxL + 11) + lo ≤ rm.locals)
    (kk : ∀ v9 A', post v9 A' → HM g D G q A' (pc + 3) L (v9.toList ++ rest)) : HM g D G q A pc L st := fun w hw hr => by
  subst hst
  obtain ⟨V, h1, h2⟩ := (hcell_O ho).mp (hw a τ hg)
  have e : mSt hid (As.reverse ++ vr τ a :: rest) = (mSt hid As).reverse ++ .ref a :: mSt hid rest := by
    simp [mSt, mc]
  rw [e]
  exact j_callV C Rm Y (mSt hid As) (mSt hid rest) (hM w hw) hc hci hrc h1 hd (by simp [mSt, hn]) rfl (by rw [mcsum_ok]; exact Nat.le_of_ble_eq_true h8) hR (by rw [hr]; exact hq1) (hkk hr kk)
theorem h_iretX {post : Option Value → jW → Prop} {mc ms : Nat} (C : jX g cc nL own D) {k0 n0 : Nat} (Rm : jRm g k0 n0 rm) (E : jEnd g post mc ms (some .int)) {x : Int} (hd : decode cc pc = .ok (.ireturn, 1)) (hq2 : q.1 ≤ k0 + mc ∧ q.2 ≤ n0 + ms) (hp : ∀ w', hW D G A w' → w'.2 = q → post (some (.int (Int32.ofInt x))) w') : HM g D G q A pc L [vi x] := fun w hw hr => j_iret C Rm E hd (hp w hw hr) (by rw [hr]; exact hq2.1) (by rw [hr]; exact hq2.2)
theorem finX {post : Option Value → jW → Prop} {x r : Int} {m A9 : mA} (h : some (x, m) = some (r, A9)) (hp : ∀ w', hW D G A9 w' → w'.2 = q → post (some (.int (Int32.ofInt r))) w') : ∀ w', hW D G m w' → w'.2 = q → post (some (.int (Int32.ofInt x))) w' := by
  cases h
  exact hp
end HX
def f_Read_faultOf5 (A : mA) (o : Nat) (a0 : Nat) (a1 : Int) (a2 : Nat) (a3 : Int) : Option (Int × mA) := (if g32 a1 then (if g32 ((120 : Nat) : Int) then (if 0 ≤ ((mu (mu (mu A 3 o 0 ((a0 : Nat) : Int)) 3 o 1 (min a1 ((120 : Nat) : Int))) 3 o 2 ((a2 : Nat) : Int)) 3 o 2) then (Option.bind (f_Prog_clear (mu (mu (mu A 3 o 0 ((a0 : Nat) : Int)) 3 o 1 (min a1 ((120 : Nat) : Int))) 3 o 2 ((a2 : Nat) : Int)) (((mu (mu (mu A 3 o 0 ((a0 : Nat) : Int)) 3 o 1 (min a1 ((120 : Nat) : Int))) 3 o 2 ((a2 : Nat) : Int)) 3 o 2).toNat)) (fun q6 => (Option.bind (f_Read_advance (mu (mu (mu q6.2 3 o 3 a3) 3 o 4 0) 3 o 5 0) o) (fun q8 => (Option.bind (f_Read_readBlock (f_Read_stepN 5) q8.2 o) (fun q10 => (if g32 q10.1 then (if q10.1 = 0 then (some ((q10.2 3 o 6), q10.2)) else (if g32 (q10.2 3 o 7) then (if (q10.2 3 o 7) = 0 then (some ((-1), q10.2)) else (some ((q10.2 3 o 6), q10.2))) else none)) else none))))))) else none) else none) else none)
theorem f_hx_Read_faultOf5_0_2 : mblkB b_Read_faultOf [(0, .aload_n 0, vi 0), (1, .aload_n 1, vi 0)] = true := by decide +kernel
theorem e_hx_Read_faultOf5_2 : decode b_Read_faultOf 2 = .ok (.putfield 9, 3) := by decide +kernel
theorem f_hx_Read_faultOf5_5_3 : mblkB b_Read_faultOf [(5, .aload_n 0, vi 0), (6, .iload_n 2, vi 0), (7, .aload_n 1, vi 0)] = true := by decide +kernel
theorem e_hx_Read_faultOf5_8 : decode b_Read_faultOf 8 = .ok (.arraylength, 1) := by decide +kernel
theorem e_hx_Read_faultOf5_9 : decode b_Read_faultOf 9 = .ok (.invokestatic 15, 3) := by decide +kernel
theorem e_hx_Read_faultOf5_12 : decode b_Read_faultOf 12 = .ok (.putfield 21, 3) := by decide +kernel
theorem f_hx_Read_faultOf5_15_2 : mblkB b_Read_faultOf [(15, .aload_n 0, vi 0), (16, .aload_n 3, vi 0)] = true := by decide +kernel
theorem e_hx_Read_faultOf5_17 : decode b_Read_faultOf 17 = .ok (.putfield 25, 3) := by decide +kernel
theorem f_hx_Read_faultOf5_20_1 : mblkB b_Read_faultOf [(20, .aload_n 0, vi 0)] = true := by decide +kernel
theorem e_hx_Read_faultOf5_21 : decode b_Read_faultOf 21 = .ok (.getfield 25, 3) := by decide +kernel
theorem e_hx_Read_faultOf5_24 : decode b_Read_faultOf 24 = .ok (.invokevirtual 29, 3) := by decide +kernel
theorem f_hx_Read_faultOf5_27_2 : mblkB b_Read_faultOf [(27, .aload_n 0, vi 0), (28, .iload 4, vi 0)] = true := by decide +kernel
theorem e_hx_Read_faultOf5_30 : decode b_Read_faultOf 30 = .ok (.putfield 34, 3) := by decide +kernel
theorem f_hx_Read_faultOf5_33_2 : mblkB b_Read_faultOf [(33, .aload_n 0, vi 0), (34, .iconst 0, vi 0)] = true := by decide +kernel
theorem e_hx_Read_faultOf5_35 : decode b_Read_faultOf 35 = .ok (.putfield 37, 3) := by decide +kernel
theorem f_hx_Read_faultOf5_38_2 : mblkB b_Read_faultOf [(38, .aload_n 0, vi 0), (39, .iconst 0, vi 0)] = true := by decide +kernel
theorem e_hx_Read_faultOf5_40 : decode b_Read_faultOf 40 = .ok (.putfield 40, 3) := by decide +kernel
theorem f_hx_Read_faultOf5_43_1 : mblkB b_Read_faultOf [(43, .aload_n 0, vi 0)] = true := by decide +kernel
theorem e_hx_Read_faultOf5_44 : decode b_Read_faultOf 44 = .ok (.invokevirtual 43, 3) := by decide +kernel
theorem f_hx_Read_faultOf5_47_1 : mblkB b_Read_faultOf [(47, .aload_n 0, vi 0)] = true := by decide +kernel
theorem e_hx_Read_faultOf5_48 : decode b_Read_faultOf 48 = .ok (.invokevirtual 46, 3) := by decide +kernel
theorem e_hx_Read_faultOf5_51 : decode b_Read_faultOf 51 = .ok (.ifCond .eq 14, 3) := by decide +kernel
theorem f_hx_Read_faultOf5_65_1 : mblkB b_Read_faultOf [(65, .aload_n 0, vi 0)] = true := by decide +kernel
theorem e_hx_Read_faultOf5_66 : decode b_Read_faultOf 66 = .ok (.getfield 53, 3) := by decide +kernel
theorem e_hx_Read_faultOf5_69 : decode b_Read_faultOf 69 = .ok (.ireturn, 1) := by decide +kernel
theorem f_hx_Read_faultOf5_54_1 : mblkB b_Read_faultOf [(54, .aload_n 0, vi 0)] = true := by decide +kernel
theorem e_hx_Read_faultOf5_55 : decode b_Read_faultOf 55 = .ok (.getfield 50, 3) := by decide +kernel
theorem e_hx_Read_faultOf5_58 : decode b_Read_faultOf 58 = .ok (.ifCond .ne 7, 3) := by decide +kernel
theorem f_hx_Read_faultOf5_61_2 : mblkB b_Read_faultOf [(61, .iconst (-1), vi (-1)), (62, .goto 7, vi 69)] = true := by decide +kernel
set_option maxHeartbeats 4000000 in
set_option maxRecDepth 20000 in
theorem hx_Read_faultOf5  : ∀ (l : Launch) (D : va_G) (B : Nat) (H0 : Heap) (G : tG) (A : mA) (o : Nat) (a0 : Nat) (a1 : Int) (a2 : Nat) (a3 : Int) (h_o : G o = some 3) (h_a0 : G a0 = some 20) (h_a2 : G a2 = some 2)  (r9 : Int) (A9 : mA), f_Read_faultOf5  A o a0 a1 a2 a3 = some (r9, A9) → hMet l D B H0 G y_Read_faultOf b_Read_faultOf 5 (some .int) 1841 74021 [vr 3 o, vr 20 a0, vi a1, vr 2 a2, vi a3] A (fun v A' => v = some (vi r9) ∧ A' = A9) := by
  intro l D B H0 G A o a0 a1 a2 a3 h_o h_a0 h_a2 r9 A9 h
  refine h_met (by decide) rfl (fun g q C Rm Y E => ?_)
  show HM g D G q A 0 [(0, vr 3 o), (1, vr 20 a0), (2, vi a1), (3, vr 2 a2), (4, vi a3)] []
  unfold f_Read_faultOf5 at h
  refine h_blk 2 [(0, vr 3 o), (1, vr 20 a0), (2, vi a1), (3, vr 2 a2), (4, vi a3)] [vr 20 a0, vr 3 o] C f_hx_Read_faultOf5_0_2 rfl ?_
  refine h_putr C e_hx_Read_faultOf5_2 fp_Read_9 ⟨rfl, rfl⟩ h_o rfl rfl (Or.inr rfl) rfl h_a0 ?_
  refine h_blk 8 [(0, vr 3 o), (1, vr 20 a0), (2, vi a1), (3, vr 2 a2), (4, vi a3)] [vr 20 a0, vi a1, vr 3 o] C f_hx_Read_faultOf5_5_3 rfl ?_
  refine h_alen C e_hx_Read_faultOf5_8 h_a0 rfl rfl ?_
  obtain ⟨c1, h⟩ := igd h
  obtain ⟨c2, h⟩ := igd h
  refine h_mmin C Rm cl_Read_15 e_hx_Read_faultOf5_9 (by decide) (Nat.le_of_ble_eq_true rfl) c1 c2 (fun z3 hz3 => ?_)
  obtain rfl : z3 = min a1 ((120 : Nat) : Int) := by omega
  refine h_puti C e_hx_Read_faultOf5_12 fp_Read_21 h_o rfl rfl rfl ?_
  refine h_blk 17 [(0, vr 3 o), (1, vr 20 a0), (2, vi a1), (3, vr 2 a2), (4, vi a3)] [vr 2 a2, vr 3 o] C f_hx_Read_faultOf5_15_2 rfl ?_
  refine h_putr C e_hx_Read_faultOf5_17 fp_Read_25 ⟨rfl, rfl⟩ h_o rfl rfl (Or.inr rfl) rfl h_a2 ?_
  refine h_blk 21 [(0, vr 3 o), (1, vr 20 a0), (2, vi a1), (3, vr 2 a2), (4, vi a3)] [vr 3 o] C f_hx_Read_faultOf5_20_1 rfl ?_
  obtain ⟨c4, h⟩ := igd h
  refine h_getr5 C e_hx_Read_faultOf5_21 fg_Read_25 h_o rfl rfl rfl rfl c4 (fun g5 => ?_)
  obtain ⟨q6, e7, h⟩ := obd h
  refine h_callV C Rm Y [] [] (hx_Prog_clear l D B H0 G _ (((mu (mu (mu A 3 o 0 ((a0 : Nat) : Int)) 3 o 1 (min a1 ((120 : Nat) : Int))) 3 o 2 ((a2 : Nat) : Int)) 3 o 2).toNat) g5 _ _ e7) cl_Read_29 g5 rfl rfl rfl e_hx_Read_faultOf5_24 rfl rfl rfl ⟨by decide, by decide⟩ ?_
  rintro _ _ ⟨rfl, rfl⟩
  show HM g D G q q6.2 27 [(0, vr 3 o), (1, vr 20 a0), (2, vi a1), (3, vr 2 a2), (4, vi a3)] []
  refine h_blk 30 [(0, vr 3 o), (1, vr 20 a0), (2, vi a1), (3, vr 2 a2), (4, vi a3)] [vi a3, vr 3 o] C f_hx_Read_faultOf5_27_2 rfl ?_
  refine h_puti C e_hx_Read_faultOf5_30 fp_Read_34 h_o rfl rfl rfl ?_
  refine h_blk 35 [(0, vr 3 o), (1, vr 20 a0), (2, vi a1), (3, vr 2 a2), (4, vi a3)] [vi 0, vr 3 o] C f_hx_Read_faultOf5_33_2 rfl ?_
  refine h_puti C e_hx_Read_faultOf5_35 fp_Read_37 h_o rfl rfl rfl ?_
  refine h_blk 40 [(0, vr 3 o), (1, vr 20 a0), (2, vi a1), (3, vr 2 a2), (4, vi a3)] [vi 0, vr 3 o] C f_hx_Read_faultOf5_38_2 rfl ?_
  refine h_puti C e_hx_Read_faultOf5_40 fp_Read_40 h_o rfl rfl rfl ?_
  refine h_blk 44 [(0, vr 3 o), (1, vr 20 a0), (2, vi a1), (3, vr 2 a2), (4, vi a3)] [vr 3 o] C f_hx_Read_faultOf5_43_1 rfl ?_
  obtain ⟨q8, e9, h⟩ := obd h
  refine h_callV C Rm Y [] [] (hx_Read_advance l D B H0 G _ o h_o _ _ e9) cl_Read_43 h_o rfl rfl rfl e_hx_Read_faultOf5_44 rfl rfl rfl ⟨by decide, by decide⟩ ?_
  rintro _ _ ⟨rfl, rfl⟩
  show HM g D G q q8.2 47 [(0, vr 3 o), (1, vr 20 a0), (2, vi a1), (3, vr 2 a2), (4, vi a3)] []
  refine h_blk 48 [(0, vr 3 o), (1, vr 20 a0), (2, vi a1), (3, vr 2 a2), (4, vi a3)] [vr 3 o] C f_hx_Read_faultOf5_47_1 rfl ?_
  obtain ⟨q10, e11, h⟩ := obd h
  refine h_callV C Rm Y [] [] (hx_Read_readBlock (hx_Read_stepN 5) l D B H0 G _ o h_o _ _ e11) cl_Read_46 h_o rfl rfl rfl e_hx_Read_faultOf5_48 rfl rfl rfl ⟨by decide, by decide⟩ ?_
  rintro _ _ ⟨rfl, rfl⟩
  show HM g D G q q10.2 51 [(0, vr 3 o), (1, vr 20 a0), (2, vi a1), (3, vr 2 a2), (4, vi a3)] [vi q10.1]
  obtain ⟨c12, h⟩ := igd h
  refine h_if_eq (tgt := 65) C e_hx_Read_faultOf5_51 (by decide) c12 (fun c13 => ?_) (fun c13 => ?_)
  · have h := ifp c13 h
    refine h_blk 66 [(0, vr 3 o), (1, vr 20 a0), (2, vi a1), (3, vr 2 a2), (4, vi a3)] [vr 3 o] C f_hx_Read_faultOf5_65_1 rfl ?_
    refine h_geti C e_hx_Read_faultOf5_66 fg_Read_53 h_o rfl rfl rfl (q10.2 3 o 6) rfl ?_
    exact h_iret C Rm E e_hx_Read_faultOf5_69 (fin1 h)
  · have h := ifn c13 h
    refine h_blk 55 [(0, vr 3 o), (1, vr 20 a0), (2, vi a1), (3, vr 2 a2), (4, vi a3)] [vr 3 o] C f_hx_Read_faultOf5_54_1 rfl ?_
    refine h_geti C e_hx_Read_faultOf5_55 fg_Read_50 h_o rfl rfl rfl (q10.2 3 o 7) rfl ?_
    obtain ⟨c14, h⟩ := igd h
    refine h_if_ne (tgt := 65) C e_hx_Read_faultOf5_58 (by decide) c14 (fun c15 => ?_) (fun c15 => ?_)
    · have h := ifn c15 h
      refine h_blk 66 [(0, vr 3 o), (1, vr 20 a0), (2, vi a1), (3, vr 2 a2), (4, vi a3)] [vr 3 o] C f_hx_Read_faultOf5_65_1 rfl ?_
      refine h_geti C e_hx_Read_faultOf5_66 fg_Read_53 h_o rfl rfl rfl (q10.2 3 o 6) rfl ?_
      exact h_iret C Rm E e_hx_Read_faultOf5_69 (fin1 h)
    · have h := ifp c15 h
      refine h_blk 69 [(0, vr 3 o), (1, vr 20 a0), (2, vi a1), (3, vr 2 a2), (4, vi a3)] [vi (-1)] C f_hx_Read_faultOf5_61_2 rfl ?_
      exact h_iret C Rm E e_hx_Read_faultOf5_69 (fin1 h)

def f_CS_program_44 (A : mA) (o : Nat) (pr : Nat) : Option (Int × mA) := (Option.bind (f_Read_faultOf5 A ((A 8 o 9).toNat) ((A 8 o 0).toNat) (A 8 o 1) pr (A 8 o 3)) (fun q3 => (if g32 q3.1 then (if q3.1 = (-1) then (Option.bind (f_Prog_weigh (mu q3.2 8 o 1 0) pr ((q3.2 8 o 2).toNat)) (fun q8 => (if g32 (q8.2 2 pr 8) then (if 50 < (q8.2 2 pr 8) then (some ((-4), q8.2)) else (if g32 (q8.2 2 pr 9) then (if (q8.2 2 pr 9) ≤ 60 then (some ((((q8.2 8 o 3) + 1) - 1), (mu q8.2 8 o 3 ((q8.2 8 o 3) + 1)))) else (some ((-4), q8.2))) else none)) else none))) else (some (((-100) - q3.1), (mu q3.2 8 o 1 0)))) else none)))
theorem f_hx_CS_program_44_44_1 : mblkB b_CS_program [(44, .aload_n 0, vi 0)] = true := by decide +kernel
theorem e_hx_CS_program_44_45 : decode b_CS_program 45 = .ok (.getfield 28, 3) := by decide +kernel
theorem f_hx_CS_program_44_48_1 : mblkB b_CS_program [(48, .aload_n 0, vi 0)] = true := by decide +kernel
theorem e_hx_CS_program_44_49 : decode b_CS_program 49 = .ok (.getfield 9, 3) := by decide +kernel
theorem f_hx_CS_program_44_52_1 : mblkB b_CS_program [(52, .aload_n 0, vi 0)] = true := by decide +kernel
theorem e_hx_CS_program_44_53 : decode b_CS_program 53 = .ok (.getfield 51, 3) := by decide +kernel
theorem f_hx_CS_program_44_56_2 : mblkB b_CS_program [(56, .aload_n 1, vi 0), (57, .aload_n 0, vi 0)] = true := by decide +kernel
theorem e_hx_CS_program_44_58 : decode b_CS_program 58 = .ok (.getfield 59, 3) := by decide +kernel
theorem e_hx_CS_program_44_61 : decode b_CS_program 61 = .ok (.invokevirtual 63, 3) := by decide +kernel
theorem f_hx_CS_program_44_64_3 : mblkB b_CS_program [(64, .istore_n 2, vi 0), (65, .aload_n 0, vi 0), (66, .iconst 0, vi 0)] = true := by decide +kernel
theorem e_hx_CS_program_44_67 : decode b_CS_program 67 = .ok (.putfield 51, 3) := by decide +kernel
theorem f_hx_CS_program_44_70_2 : mblkB b_CS_program [(70, .iload_n 2, vi 0), (71, .iconst (-1), vi (-1))] = true := by decide +kernel
theorem e_hx_CS_program_44_72 : decode b_CS_program 72 = .ok (.if_icmp .eq 8, 3) := by decide +kernel
theorem f_hx_CS_program_44_80_2 : mblkB b_CS_program [(80, .aload_n 1, vi 0), (81, .aload_n 0, vi 0)] = true := by decide +kernel
theorem e_hx_CS_program_44_82 : decode b_CS_program 82 = .ok (.getfield 15, 3) := by decide +kernel
theorem e_hx_CS_program_44_85 : decode b_CS_program 85 = .ok (.invokevirtual 67, 3) := by decide +kernel
theorem f_hx_CS_program_44_88_1 : mblkB b_CS_program [(88, .aload_n 1, vi 0)] = true := by decide +kernel
theorem e_hx_CS_program_44_89 : decode b_CS_program 89 = .ok (.getfield 71, 3) := by decide +kernel
theorem f_hx_CS_program_44_92_1 : mblkB b_CS_program [(92, .bipush 50, vi 50)] = true := by decide +kernel
theorem e_hx_CS_program_44_94 : decode b_CS_program 94 = .ok (.if_icmp .gt 12, 3) := by decide +kernel
theorem f_hx_CS_program_44_106_1 : mblkB b_CS_program [(106, .bipush (-4), vi (-4))] = true := by decide +kernel
theorem e_hx_CS_program_44_108 : decode b_CS_program 108 = .ok (.ireturn, 1) := by decide +kernel
theorem f_hx_CS_program_44_97_1 : mblkB b_CS_program [(97, .aload_n 1, vi 0)] = true := by decide +kernel
theorem e_hx_CS_program_44_98 : decode b_CS_program 98 = .ok (.getfield 74, 3) := by decide +kernel
theorem f_hx_CS_program_44_101_1 : mblkB b_CS_program [(101, .bipush 60, vi 60)] = true := by decide +kernel
theorem e_hx_CS_program_44_103 : decode b_CS_program 103 = .ok (.if_icmp .le 6, 3) := by decide +kernel
theorem f_hx_CS_program_44_109_2 : mblkB b_CS_program [(109, .aload_n 0, vi 0), (110, .dup, vi 0)] = true := by decide +kernel
theorem e_hx_CS_program_44_111 : decode b_CS_program 111 = .ok (.getfield 59, 3) := by decide +kernel
theorem f_hx_CS_program_44_114_2 : mblkB b_CS_program [(114, .iconst 1, vi 1), (115, .iadd, vi 0)] = true := by decide +kernel
theorem e_hx_CS_program_44_116 : decode b_CS_program 116 = .ok (.putfield 59, 3) := by decide +kernel
theorem f_hx_CS_program_44_119_1 : mblkB b_CS_program [(119, .aload_n 0, vi 0)] = true := by decide +kernel
theorem e_hx_CS_program_44_120 : decode b_CS_program 120 = .ok (.getfield 59, 3) := by decide +kernel
theorem f_hx_CS_program_44_123_2 : mblkB b_CS_program [(123, .iconst 1, vi 1), (124, .isub, vi 0)] = true := by decide +kernel
theorem e_hx_CS_program_44_125 : decode b_CS_program 125 = .ok (.ireturn, 1) := by decide +kernel
theorem f_hx_CS_program_44_75_3 : mblkB b_CS_program [(75, .bipush (-100), vi (-100)), (77, .iload_n 2, vi 0), (78, .isub, vi 0)] = true := by decide +kernel
theorem e_hx_CS_program_44_79 : decode b_CS_program 79 = .ok (.ireturn, 1) := by decide +kernel
set_option maxHeartbeats 4000000 in
set_option maxRecDepth 20000 in
theorem hx_CS_program_44 {g : jG} {D : va_G} {G : tG} {q : Nat × Nat} {l : Launch} {B : Nat} {H0 : Heap} {y0 : MethodName} {k0 n0 mc ms c0 s0 : Nat} {post : Option Value → jW → Prop} (A : mA) (o pr : Nat) (h_o : G o = some 8) (h_pr : G pr = some 2) (r9 : Int) (A9 : mA) (h : f_CS_program_44 A o pr = some (r9, A9)) (C : jX g b_CS_program 3 "ChanceSteps" D) (Rm : jRm g k0 n0 ({ frames := 1860, cells := c0, slots := s0, locals := 74100 } : Room)) (Y : jY g l B H0 y0) (E : jEnd g post mc ms (some .int)) (hq1 : q.1 ≤ k0 + c0 ∧ q.2 ≤ n0 + s0) (hq2 : q.1 ≤ k0 + mc ∧ q.2 ≤ n0 + ms) (hp : ∀ w', hW D G A9 w' → w'.2 = q → post (some (.int (Int32.ofInt r9))) w') : HM g D G q A 44 [(0, vr 8 o), (1, vr 2 pr)] [] := by
  unfold f_CS_program_44 at h
  refine h_blk 45 [(0, vr 8 o), (1, vr 2 pr)] [vr 8 o] C f_hx_CS_program_44_44_1 rfl ?_
  refine h_getr4 C e_hx_CS_program_44_45 fg_CS_28 h_o rfl rfl rfl rfl (fun g1 => ?_)
  refine h_blk 49 [(0, vr 8 o), (1, vr 2 pr)] [vr 8 o, vr 3 ((A 8 o 9).toNat)] C f_hx_CS_program_44_48_1 rfl ?_
  refine h_getr4 C e_hx_CS_program_44_49 fg_CS_9 h_o rfl rfl rfl rfl (fun g2 => ?_)
  refine h_blk 53 [(0, vr 8 o), (1, vr 2 pr)] [vr 8 o, vr 20 ((A 8 o 0).toNat), vr 3 ((A 8 o 9).toNat)] C f_hx_CS_program_44_52_1 rfl ?_
  refine h_geti C e_hx_CS_program_44_53 fg_CS_51 h_o rfl rfl rfl (A 8 o 1) rfl ?_
  refine h_blk 58 [(0, vr 8 o), (1, vr 2 pr)] [vr 8 o, vr 2 pr, vi (A 8 o 1), vr 20 ((A 8 o 0).toNat), vr 3 ((A 8 o 9).toNat)] C f_hx_CS_program_44_56_2 rfl ?_
  refine h_geti C e_hx_CS_program_44_58 fg_CS_59 h_o rfl rfl rfl (A 8 o 3) rfl ?_
  obtain ⟨q3, e4, h⟩ := obd h
  refine h_callVX C Rm Y hq1 [vr 20 ((A 8 o 0).toNat), vi (A 8 o 1), vr 2 pr, vi (A 8 o 3)] [] (hx_Read_faultOf5 l D B H0 G _ ((A 8 o 9).toNat) ((A 8 o 0).toNat) (A 8 o 1) pr (A 8 o 3) g1 g2 h_pr _ _ e4) cl_CS_63 g1 rfl rfl rfl e_hx_CS_program_44_61 rfl rfl rfl ⟨by show _ ≤ (1860 : Nat); decide, by show _ ≤ (74100 : Nat); decide⟩ ?_
  rintro _ _ ⟨rfl, rfl⟩
  show HM g D G q q3.2 64 [(0, vr 8 o), (1, vr 2 pr)] [vi q3.1]
  refine h_blk 67 [(2, vi q3.1), (0, vr 8 o), (1, vr 2 pr)] [vi 0, vr 8 o] C f_hx_CS_program_44_64_3 rfl ?_
  refine h_puti C e_hx_CS_program_44_67 fp_CS_51 h_o rfl rfl rfl ?_
  refine h_blk 72 [(2, vi q3.1), (0, vr 8 o), (1, vr 2 pr)] [vi (-1), vi q3.1] C f_hx_CS_program_44_70_2 rfl ?_
  obtain ⟨c5, h⟩ := igd h
  refine h_icmp_eq (tgt := 80) C e_hx_CS_program_44_72 (by decide) c5 (by decide) (fun c6 => ?_) (fun c6 => ?_)
  · have h := ifp c6 h
    refine h_blk 82 [(2, vi q3.1), (0, vr 8 o), (1, vr 2 pr)] [vr 8 o, vr 2 pr] C f_hx_CS_program_44_80_2 rfl ?_
    refine h_getr4 C e_hx_CS_program_44_82 fg_CS_15 h_o rfl rfl rfl rfl (fun g7 => ?_)
    obtain ⟨q8, e9, h⟩ := obd h
    refine h_callVX C Rm Y hq1 [vr 21 ((q3.2 8 o 2).toNat)] [] (hx_Prog_weigh l D B H0 G _ pr ((q3.2 8 o 2).toNat) h_pr g7 _ _ e9) cl_CS_67 h_pr rfl rfl rfl e_hx_CS_program_44_85 rfl rfl rfl ⟨by show _ ≤ (1860 : Nat); decide, by show _ ≤ (74100 : Nat); decide⟩ ?_
    rintro _ _ ⟨rfl, rfl⟩
    show HM g D G q q8.2 88 [(2, vi q3.1), (0, vr 8 o), (1, vr 2 pr)] []
    refine h_blk 89 [(2, vi q3.1), (0, vr 8 o), (1, vr 2 pr)] [vr 2 pr] C f_hx_CS_program_44_88_1 rfl ?_
    refine h_geti C e_hx_CS_program_44_89 fg_CS_71 h_pr rfl rfl rfl (q8.2 2 pr 8) rfl ?_
    refine h_blk 94 [(2, vi q3.1), (0, vr 8 o), (1, vr 2 pr)] [vi 50, vi (q8.2 2 pr 8)] C f_hx_CS_program_44_92_1 rfl ?_
    obtain ⟨c10, h⟩ := igd h
    refine h_icmp_gt (tgt := 106) C e_hx_CS_program_44_94 (by decide) c10 (by decide) (fun c11 => ?_) (fun c11 => ?_)
    · have h := ifp c11 h
      refine h_blk 108 [(2, vi q3.1), (0, vr 8 o), (1, vr 2 pr)] [vi (-4)] C f_hx_CS_program_44_106_1 rfl ?_
      exact h_iretX C Rm E e_hx_CS_program_44_108 hq2 (finX h hp)
    · have h := ifn c11 h
      refine h_blk 98 [(2, vi q3.1), (0, vr 8 o), (1, vr 2 pr)] [vr 2 pr] C f_hx_CS_program_44_97_1 rfl ?_
      refine h_geti C e_hx_CS_program_44_98 fg_CS_74 h_pr rfl rfl rfl (q8.2 2 pr 9) rfl ?_
      refine h_blk 103 [(2, vi q3.1), (0, vr 8 o), (1, vr 2 pr)] [vi 60, vi (q8.2 2 pr 9)] C f_hx_CS_program_44_101_1 rfl ?_
      obtain ⟨c12, h⟩ := igd h
      refine h_icmp_le (tgt := 109) C e_hx_CS_program_44_103 (by decide) c12 (by decide) (fun c13 => ?_) (fun c13 => ?_)
      · have h := ifp c13 h
        refine h_blk 111 [(2, vi q3.1), (0, vr 8 o), (1, vr 2 pr)] [vr 8 o, vr 8 o] C f_hx_CS_program_44_109_2 rfl ?_
        refine h_geti C e_hx_CS_program_44_111 fg_CS_59 h_o rfl rfl rfl (q8.2 8 o 3) rfl ?_
        refine h_blk 116 [(2, vi q3.1), (0, vr 8 o), (1, vr 2 pr)] [vi ((q8.2 8 o 3) + 1), vr 8 o] C f_hx_CS_program_44_114_2 rfl ?_
        refine h_puti C e_hx_CS_program_44_116 fp_CS_59 h_o rfl rfl rfl ?_
        refine h_blk 120 [(2, vi q3.1), (0, vr 8 o), (1, vr 2 pr)] [vr 8 o] C f_hx_CS_program_44_119_1 rfl ?_
        refine h_geti C e_hx_CS_program_44_120 fg_CS_59 h_o rfl rfl rfl ((q8.2 8 o 3) + 1) (mu_at q8.2 8 o 3 ((q8.2 8 o 3) + 1)) ?_
        refine h_blk 125 [(2, vi q3.1), (0, vr 8 o), (1, vr 2 pr)] [vi (((q8.2 8 o 3) + 1) - 1)] C f_hx_CS_program_44_123_2 rfl ?_
        exact h_iretX C Rm E e_hx_CS_program_44_125 hq2 (finX h hp)
      · have h := ifn c13 h
        refine h_blk 108 [(2, vi q3.1), (0, vr 8 o), (1, vr 2 pr)] [vi (-4)] C f_hx_CS_program_44_106_1 rfl ?_
        exact h_iretX C Rm E e_hx_CS_program_44_108 hq2 (finX h hp)
  · have h := ifn c6 h
    refine h_blk 79 [(2, vi q3.1), (0, vr 8 o), (1, vr 2 pr)] [vi ((-100) - q3.1)] C f_hx_CS_program_44_75_3 rfl ?_
    exact h_iretX C Rm E e_hx_CS_program_44_79 hq2 (finX h hp)
