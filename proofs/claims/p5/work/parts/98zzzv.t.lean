/-! the walk over odds of the class, by what must hold behind it (own work, by program) -/
def f_Prog_neededFromTimes (A : mA) (o : Nat) (a0 : Int) (a1 : Int) (a2 : Int) : Option (Int × mA) := (Option.bind (f_Prog_neededAheadOfTimes (f_Prog_naoN 6) A o a0 a1 a2 0) (fun q1 => (some (q1.1, q1.2))))
theorem f_hx_Prog_neededFromTimes_0_5 : mblkB b_Prog_neededFromTimes [(0, .aload_n 0, vi 0), (1, .iload_n 1, vi 0), (2, .iload_n 2, vi 0), (3, .iload_n 3, vi 0), (4, .iconst 0, vi 0)] = true := by decide +kernel
theorem e_hx_Prog_neededFromTimes_5 : decode b_Prog_neededFromTimes 5 = .ok (.invokevirtual 130, 3) := by decide +kernel
theorem e_hx_Prog_neededFromTimes_8 : decode b_Prog_neededFromTimes 8 = .ok (.ireturn, 1) := by decide +kernel
set_option maxHeartbeats 4000000 in
set_option maxRecDepth 20000 in
theorem hx_Prog_neededFromTimes  : ∀ (l : Launch) (D : va_G) (B : Nat) (H0 : Heap) (G : tG) (A : mA) (o : Nat) (a0 : Int) (a1 : Int) (a2 : Int) (h_o : G o = some 2)  (r9 : Int) (A9 : mA), f_Prog_neededFromTimes  A o a0 a1 a2 = some (r9, A9) → hMet l D B H0 G y_Prog_neededFromTimes b_Prog_neededFromTimes 4 (some .int) 41 1226 [vr 2 o, vi a0, vi a1, vi a2] A (fun v A' => v = some (vi r9) ∧ A' = A9) := by
  intro l D B H0 G A o a0 a1 a2 h_o r9 A9 h
  refine h_met (by decide) rfl (fun g q C Rm Y E => ?_)
  show HM g D G q A 0 [(0, vr 2 o), (1, vi a0), (2, vi a1), (3, vi a2)] []
  unfold f_Prog_neededFromTimes at h
  refine h_blk 5 [(0, vr 2 o), (1, vi a0), (2, vi a1), (3, vi a2)] [vi 0, vi a2, vi a1, vi a0, vr 2 o] C f_hx_Prog_neededFromTimes_0_5 rfl ?_
  obtain ⟨q1, e2, h⟩ := obd h
  refine h_callV C Rm Y [vi a0, vi a1, vi a2, vi 0] [] (hx_Prog_neededAheadOfTimes (hx_Prog_naoN 6) l D B H0 G _ o a0 a1 a2 0 h_o _ _ e2) cl_Prog_130 h_o rfl rfl rfl e_hx_Prog_neededFromTimes_5 rfl rfl rfl ⟨by decide, by decide⟩ ?_
  rintro _ _ ⟨rfl, rfl⟩
  show HM g D G q q1.2 8 [(0, vr 2 o), (1, vi a0), (2, vi a1), (3, vi a2)] [vi q1.1]
  exact h_iret C Rm E e_hx_Prog_neededFromTimes_8 (fin1 h)

def w_Walk_lend (k0 : Nat) (G0 : tG) (A : mA) (o : Nat) (Q : wQ) : Prop := (if g32 (A 7 o 2) then (if (A 7 o 2) < 0 then (Q (-1) A G0 k0) else (if g32 ((40 : Nat) : Int) then (if (A 7 o 2) < ((40 : Nat) : Int) then (if (0 ≤ (A 7 o 2) ∧ (A 7 o 2) < ((40 : Nat) : Int)) then (if 0 ≤ (A 35 ((A 7 o 1).toNat) ((A 7 o 2).toNat)) then (if (0 ≤ (((A 7 o 2) + 1) - 1) ∧ (((A 7 o 2) + 1) - 1) < ((40 : Nat) : Int)) then (if 0 ≤ (A 35 ((A 7 o 1).toNat) ((((A 7 o 2) + 1) - 1).toNat)) then (Q (((A 35 ((A 7 o 1).toNat) ((((A 7 o 2) + 1) - 1).toNat)).toNat : Nat) : Int) (mu A 7 o 2 ((A 7 o 2) + 1)) G0 k0) else False) else False) else (∃ k15, k0 = k15 + 1 ∧ ∀ o16 o17 o18, crF G0 o16 o17 o18 → (if (0 ≤ (A 7 o 2) ∧ (A 7 o 2) < ((40 : Nat) : Int)) then (if (0 ≤ ((((crI A o16 o17 o18) 7 o 2) + 1) - 1) ∧ ((((crI A o16 o17 o18) 7 o 2) + 1) - 1) < ((40 : Nat) : Int)) then (if 0 ≤ ((mu (crI A o16 o17 o18) 35 ((A 7 o 1).toNat) ((A 7 o 2).toNat) ((o16 : Nat) : Int)) 35 (((crI A o16 o17 o18) 7 o 1).toNat) (((((crI A o16 o17 o18) 7 o 2) + 1) - 1).toNat)) then (Q ((((mu (crI A o16 o17 o18) 35 ((A 7 o 1).toNat) ((A 7 o 2).toNat) ((o16 : Nat) : Int)) 35 (((crI A o16 o17 o18) 7 o 1).toNat) (((((crI A o16 o17 o18) 7 o 2) + 1) - 1).toNat)).toNat : Nat) : Int) (mu (mu (crI A o16 o17 o18) 35 ((A 7 o 1).toNat) ((A 7 o 2).toNat) ((o16 : Nat) : Int)) 7 o 2 (((crI A o16 o17 o18) 7 o 2) + 1)) (crG G0 o16 o17 o18) k15) else False) else False) else False))) else False) else (Q (-1) A G0 k0)) else False)) else False)
theorem f_wx_Walk_lend_0_1 : mblkB b_Walk_lend [(0, .aload_n 0, vi 0)] = true := by decide +kernel
theorem e_wx_Walk_lend_1 : decode b_Walk_lend 1 = .ok (.getfield 72, 3) := by decide +kernel
theorem e_wx_Walk_lend_4 : decode b_Walk_lend 4 = .ok (.ifCond .lt 15, 3) := by decide +kernel
theorem e_wx_Walk_lend_19 : decode b_Walk_lend 19 = .ok (.aconst_null, 1) := by decide +kernel
theorem e_wx_Walk_lend_20 : decode b_Walk_lend 20 = .ok (.areturn, 1) := by decide +kernel
theorem f_wx_Walk_lend_7_1 : mblkB b_Walk_lend [(7, .aload_n 0, vi 0)] = true := by decide +kernel
theorem e_wx_Walk_lend_8 : decode b_Walk_lend 8 = .ok (.getfield 72, 3) := by decide +kernel
theorem f_wx_Walk_lend_11_1 : mblkB b_Walk_lend [(11, .aload_n 0, vi 0)] = true := by decide +kernel
theorem e_wx_Walk_lend_12 : decode b_Walk_lend 12 = .ok (.getfield 20, 3) := by decide +kernel
theorem e_wx_Walk_lend_15 : decode b_Walk_lend 15 = .ok (.arraylength, 1) := by decide +kernel
theorem e_wx_Walk_lend_16 : decode b_Walk_lend 16 = .ok (.if_icmp .lt 5, 3) := by decide +kernel
theorem f_wx_Walk_lend_21_1 : mblkB b_Walk_lend [(21, .aload_n 0, vi 0)] = true := by decide +kernel
theorem e_wx_Walk_lend_22 : decode b_Walk_lend 22 = .ok (.getfield 20, 3) := by decide +kernel
theorem f_wx_Walk_lend_25_1 : mblkB b_Walk_lend [(25, .aload_n 0, vi 0)] = true := by decide +kernel
theorem e_wx_Walk_lend_26 : decode b_Walk_lend 26 = .ok (.getfield 72, 3) := by decide +kernel
theorem e_wx_Walk_lend_29 : decode b_Walk_lend 29 = .ok (.aaload, 1) := by decide +kernel
theorem e_wx_Walk_lend_30 : decode b_Walk_lend 30 = .ok (.ifnonnull 19, 3) := by decide +kernel
theorem f_wx_Walk_lend_49_2 : mblkB b_Walk_lend [(49, .aload_n 0, vi 0), (50, .dup, vi 0)] = true := by decide +kernel
theorem e_wx_Walk_lend_51 : decode b_Walk_lend 51 = .ok (.getfield 72, 3) := by decide +kernel
theorem f_wx_Walk_lend_54_2 : mblkB b_Walk_lend [(54, .iconst 1, vi 1), (55, .iadd, vi 0)] = true := by decide +kernel
theorem e_wx_Walk_lend_56 : decode b_Walk_lend 56 = .ok (.putfield 72, 3) := by decide +kernel
theorem f_wx_Walk_lend_59_1 : mblkB b_Walk_lend [(59, .aload_n 0, vi 0)] = true := by decide +kernel
theorem e_wx_Walk_lend_60 : decode b_Walk_lend 60 = .ok (.getfield 20, 3) := by decide +kernel
theorem f_wx_Walk_lend_63_1 : mblkB b_Walk_lend [(63, .aload_n 0, vi 0)] = true := by decide +kernel
theorem e_wx_Walk_lend_64 : decode b_Walk_lend 64 = .ok (.getfield 72, 3) := by decide +kernel
theorem f_wx_Walk_lend_67_2 : mblkB b_Walk_lend [(67, .iconst 1, vi 1), (68, .isub, vi 0)] = true := by decide +kernel
theorem e_wx_Walk_lend_69 : decode b_Walk_lend 69 = .ok (.aaload, 1) := by decide +kernel
theorem e_wx_Walk_lend_70 : decode b_Walk_lend 70 = .ok (.areturn, 1) := by decide +kernel
theorem f_wx_Walk_lend_33_1 : mblkB b_Walk_lend [(33, .aload_n 0, vi 0)] = true := by decide +kernel
theorem e_wx_Walk_lend_34 : decode b_Walk_lend 34 = .ok (.getfield 20, 3) := by decide +kernel
theorem f_wx_Walk_lend_37_1 : mblkB b_Walk_lend [(37, .aload_n 0, vi 0)] = true := by decide +kernel
theorem e_wx_Walk_lend_38 : decode b_Walk_lend 38 = .ok (.getfield 72, 3) := by decide +kernel
theorem nb_wx_Walk_lend_44 : sblk b_Walk_lend [(44, .dup, .null)] := sblk_of (by decide +kernel)
theorem e_wx_Walk_lend_41 : decode b_Walk_lend 41 = .ok (.new 18, 3) := by decide +kernel
theorem e_wx_Walk_lend_45 : decode b_Walk_lend 45 = .ok (.invokespecial 30, 3) := by decide +kernel
theorem e_wx_Walk_lend_48 : decode b_Walk_lend 48 = .ok (.aastore, 1) := by decide +kernel
set_option maxHeartbeats 4000000 in
set_option maxRecDepth 20000 in
theorem wx_Walk_lend  : ∀ (l : Launch) (D : va_G) (B : Nat) (H0 : Heap) (G0 : tG) (k0 : Nat) (A : mA) (o : Nat) (h_o : G0 o = some 7)  (Q : wQ), w_Walk_lend  k0 G0 A o Q → wMet l D B H0 G0 k0 y_Walk_lend b_Walk_lend 1 (some (.object "ChanceSteps$Crowd")) 2 60 3 [vr 7 o] A Q := by
  intro l D B H0 G0 k0 A o h_o Q h
  refine w_met (by decide) rfl (fun g q0 C Rm Y E => ?_)
  show HM g D G0 q0 A 0 [(0, vr 7 o)] []
  unfold w_Walk_lend at h
  refine h_blk 1 [(0, vr 7 o)] [vr 7 o] C f_wx_Walk_lend_0_1 rfl ?_
  refine h_geti C e_wx_Walk_lend_1 fg_Walk_72 h_o rfl rfl rfl (A 7 o 2) rfl ?_
  obtain ⟨c1, h⟩ := wgd h
  refine h_if_lt (tgt := 19) C e_wx_Walk_lend_4 (by decide) c1 (fun c2 => ?_) (fun c2 => ?_)
  · have h := wfp c2 h
    refine wn_anull C e_wx_Walk_lend_19 ?_
    exact wn_aret C Rm E (fun _ _ z => z) wb.rfl' e_wx_Walk_lend_20 h
  · have h := wfn c2 h
    refine h_blk 8 [(0, vr 7 o)] [vr 7 o] C f_wx_Walk_lend_7_1 rfl ?_
    refine h_geti C e_wx_Walk_lend_8 fg_Walk_72 h_o rfl rfl rfl (A 7 o 2) rfl ?_
    refine h_blk 12 [(0, vr 7 o)] [vr 7 o, vi (A 7 o 2)] C f_wx_Walk_lend_11_1 rfl ?_
    refine h_getr4 C e_wx_Walk_lend_12 fg_Walk_20 h_o rfl rfl rfl rfl (fun g3 => ?_)
    refine h_alen2 C e_wx_Walk_lend_15 rfl g3 rfl rfl ?_
    obtain ⟨c4, h⟩ := wgd h
    refine h_icmp_lt (tgt := 21) C e_wx_Walk_lend_16 (by decide) c1 c4 (fun c5 => ?_) (fun c5 => ?_)
    · have h := wfp c5 h
      refine h_blk 22 [(0, vr 7 o)] [vr 7 o] C f_wx_Walk_lend_21_1 rfl ?_
      refine h_getr4 C e_wx_Walk_lend_22 fg_Walk_20 h_o rfl rfl rfl rfl (fun g6 => ?_)
      refine h_blk 26 [(0, vr 7 o)] [vr 7 o, vr 35 ((A 7 o 1).toNat)] C f_wx_Walk_lend_25_1 rfl ?_
      refine h_geti C e_wx_Walk_lend_26 fg_Walk_72 h_o rfl rfl rfl (A 7 o 2) rfl ?_
      obtain ⟨c7, h⟩ := wgd h
      refine w_aaldn C e_wx_Walk_lend_29 rfl rfl g6 rfl rfl rfl rfl (by decide) c7.1 c7.2 (fun c8 g9 => ?_) (fun c8 => ?_)
      · have h := wfp c8 h
        refine h_ifnonnull (tgt := 49) C e_wx_Walk_lend_30 (by decide) ?_
        refine h_blk 51 [(0, vr 7 o)] [vr 7 o, vr 7 o] C f_wx_Walk_lend_49_2 rfl ?_
        refine h_geti C e_wx_Walk_lend_51 fg_Walk_72 h_o rfl rfl rfl (A 7 o 2) rfl ?_
        refine h_blk 56 [(0, vr 7 o)] [vi ((A 7 o 2) + 1), vr 7 o] C f_wx_Walk_lend_54_2 rfl ?_
        refine h_puti C e_wx_Walk_lend_56 fp_Walk_72 h_o rfl rfl rfl ?_
        refine h_blk 60 [(0, vr 7 o)] [vr 7 o] C f_wx_Walk_lend_59_1 rfl ?_
        refine h_getr4 C e_wx_Walk_lend_60 fg_Walk_20 h_o rfl rfl rfl rfl (fun g10 => ?_)
        refine h_blk 64 [(0, vr 7 o)] [vr 7 o, vr 35 ((A 7 o 1).toNat)] C f_wx_Walk_lend_63_1 rfl ?_
        refine h_geti C e_wx_Walk_lend_64 fg_Walk_72 h_o rfl rfl rfl ((A 7 o 2) + 1) (mu_at A 7 o 2 ((A 7 o 2) + 1)) ?_
        refine h_blk 69 [(0, vr 7 o)] [vi (((A 7 o 2) + 1) - 1), vr 35 ((A 7 o 1).toNat)] C f_wx_Walk_lend_67_2 rfl ?_
        obtain ⟨c11, h⟩ := wgd h
        obtain ⟨c12, h⟩ := wgd h
        refine h_aald5 C e_wx_Walk_lend_69 rfl rfl g10 rfl rfl rfl rfl (by decide) c11.1 c11.2 c12 (fun g13 => ?_)
        exact w_aret C Rm E (fun _ _ z => z) wb.rfl' g13 e_wx_Walk_lend_70 h
      · have h := wfn c8 h
        refine wn_ifnonnull C e_wx_Walk_lend_30 ?_
        refine h_blk 34 [(0, vr 7 o)] [vr 7 o] C f_wx_Walk_lend_33_1 rfl ?_
        refine h_getr4 C e_wx_Walk_lend_34 fg_Walk_20 h_o rfl rfl rfl rfl (fun g14 => ?_)
        refine h_blk 38 [(0, vr 7 o)] [vr 7 o, vr 35 ((A 7 o 1).toNat)] C f_wx_Walk_lend_37_1 rfl ?_
        refine h_geti C e_wx_Walk_lend_38 fg_Walk_72 h_o rfl rfl rfl (A 7 o 2) rfl ?_
        obtain ⟨k15, e24, h⟩ := h
        refine w_new C Rm Y (wbE e24 wb.rfl') e_wx_Walk_lend_41 nw_Walk_18 nb_wx_Walk_lend_44 e_wx_Walk_lend_45 cl_Walk_30 rfl (by first | exact ⟨by decide, by decide⟩ | exact ⟨by omega, by omega⟩) (fun o16 o17 o18 q20 f19 b21 g22 => ?_)
        have h := h o16 o17 o18 f19
        have y23 := crG_go f19
        obtain ⟨c25, h⟩ := wgd h
        refine h_aast C e_wx_Walk_lend_48 rfl rfl (y23 _ _ g14) rfl rfl rfl rfl g22 rfl (by decide) c25.1 c25.2 ?_
        refine h_blk 51 [(0, vr 7 o)] [vr 7 o, vr 7 o] C f_wx_Walk_lend_49_2 rfl ?_
        refine h_geti C e_wx_Walk_lend_51 fg_Walk_72 (y23 _ _ h_o) rfl rfl rfl ((crI A o16 o17 o18) 7 o 2) rfl ?_
        refine h_blk 56 [(0, vr 7 o)] [vi (((crI A o16 o17 o18) 7 o 2) + 1), vr 7 o] C f_wx_Walk_lend_54_2 rfl ?_
        refine h_puti C e_wx_Walk_lend_56 fp_Walk_72 (y23 _ _ h_o) rfl rfl rfl ?_
        refine h_blk 60 [(0, vr 7 o)] [vr 7 o] C f_wx_Walk_lend_59_1 rfl ?_
        refine h_getr4 C e_wx_Walk_lend_60 fg_Walk_20 (y23 _ _ h_o) rfl rfl rfl rfl (fun g26 => ?_)
        refine h_blk 64 [(0, vr 7 o)] [vr 7 o, vr 35 (((crI A o16 o17 o18) 7 o 1).toNat)] C f_wx_Walk_lend_63_1 rfl ?_
        refine h_geti C e_wx_Walk_lend_64 fg_Walk_72 (y23 _ _ h_o) rfl rfl rfl (((crI A o16 o17 o18) 7 o 2) + 1) (mu_at (mu (crI A o16 o17 o18) 35 ((A 7 o 1).toNat) ((A 7 o 2).toNat) ((o16 : Nat) : Int)) 7 o 2 (((crI A o16 o17 o18) 7 o 2) + 1)) ?_
        refine h_blk 69 [(0, vr 7 o)] [vi ((((crI A o16 o17 o18) 7 o 2) + 1) - 1), vr 35 (((crI A o16 o17 o18) 7 o 1).toNat)] C f_wx_Walk_lend_67_2 rfl ?_
        obtain ⟨c27, h⟩ := wgd h
        obtain ⟨c28, h⟩ := wgd h
        refine h_aald5 C e_wx_Walk_lend_69 rfl rfl g26 rfl rfl rfl rfl (by decide) c27.1 c27.2 c28 (fun g29 => ?_)
        exact w_aret C Rm E (fun a τ z => y23 a τ ((fun _ _ z => z) a τ z)) b21 g29 e_wx_Walk_lend_70 h
    · have h := wfn c5 h
      refine wn_anull C e_wx_Walk_lend_19 ?_
      exact wn_aret C Rm E (fun _ _ z => z) wb.rfl' e_wx_Walk_lend_20 h

def w_Walk_walkBlock_20 (wst : Nat → tG → mA → Nat → Nat → Int → Nat → Int → Int → wQ → Prop) : Nat → Nat → tG → mA → Nat → Nat → Int → Nat → Int → Int → Int → Int → Int → wQ → Prop
  | 0, _, _, _, _, _, _, _, _, _, _, _, _, _ => False
  | n + 1, k, G, A, b0, b1, b3, b4, b5, b6, b7, b8, b9, Q => (if g32 b9 then (if 16 ≤ b9 then (if (b7 = 0 ∨ b7 = 1) then (Q b7 A G k) else False) else (if g32 b8 then if g32 b3 then (if b3 ≤ b8 then (if (b7 = 0 ∨ b7 = 1) then (Q b7 A G k) else False) else (if g32 b7 then (if b7 = 0 then (if (b7 = 0 ∨ b7 = 1) then (Q b7 A G k) else False) else (∃ q11, f_Prog_behind A b1 b8 = some q11 ∧ (if g32 b5 then (if b5 = (-1) then (wst k G q11.2 b0 b1 b8 b4 (-1) b6 (fun r25 A26 G27 k28 => (w_Walk_walkBlock_20 wst n k28 G27 A26 b0 b1 b3 b4 b5 b6 r25 q11.1 (b9 + 1) Q))) else (∃ q15, f_Prog_neededFrom q11.2 b1 q11.1 b3 b5 = some q15 ∧ (wst k G q15.2 b0 b1 b8 b4 q15.1 b6 (fun r17 A18 G19 k20 => (w_Walk_walkBlock_20 wst n k20 G19 A18 b0 b1 b3 b4 b5 b6 r17 q11.1 (b9 + 1) Q))))) else False))) else False)) else False else False)) else False)
def w_Walk_walkBlock (wst : Nat → tG → mA → Nat → Nat → Int → Nat → Int → Int → wQ → Prop) (k0 : Nat) (G0 : tG) (A : mA) (o : Nat) (a0 : Nat) (a1 : Int) (a2 : Int) (a3 : Nat) (a4 : Int) (a5 : Int) (Q : wQ) : Prop := (if g32 a5 then (if 40 < a5 then (w_Walk_walkBlock_20 wst 20 k0 G0 A o a0 a2 a3 a4 a5 0 a1 0 Q) else (w_Walk_walkBlock_20 wst 20 k0 G0 A o a0 a2 a3 a4 a5 1 a1 0 Q)) else False)
theorem f_wx_Walk_walkBlock_0_2 : mblkB b_Walk_walkBlock [(0, .iload 6, vi 0), (2, .bipush 40, vi 40)] = true := by decide +kernel
theorem e_wx_Walk_walkBlock_4 : decode b_Walk_walkBlock 4 = .ok (.if_icmp .gt 7, 3) := by decide +kernel
theorem f_wx_Walk_walkBlock_11_6 : mblkB b_Walk_walkBlock [(11, .iconst 0, vi 0), (12, .istore 7, vi 0), (14, .iload_n 2, vi 0), (15, .istore 8, vi 0), (17, .iconst 0, vi 0), (18, .istore 9, vi 0)] = true := by decide +kernel
theorem f_wx_Walk_walkBlock_7_2 : mblkB b_Walk_walkBlock [(7, .iconst 1, vi 1), (8, .goto 4, vi 12)] = true := by decide +kernel
theorem f_wx_Walk_walkBlock_12_5 : mblkB b_Walk_walkBlock [(12, .istore 7, vi 0), (14, .iload_n 2, vi 0), (15, .istore 8, vi 0), (17, .iconst 0, vi 0), (18, .istore 9, vi 0)] = true := by decide +kernel
theorem f_wx_Walk_walkBlock_20_2 : mblkB b_Walk_walkBlock [(20, .iload 9, vi 0), (22, .bipush 16, vi 16)] = true := by decide +kernel
theorem e_wx_Walk_walkBlock_24 : decode b_Walk_walkBlock 24 = .ok (.if_icmp .ge 68, 3) := by decide +kernel
theorem f_wx_Walk_walkBlock_92_1 : mblkB b_Walk_walkBlock [(92, .iload 7, vi 0)] = true := by decide +kernel
theorem e_wx_Walk_walkBlock_94 : decode b_Walk_walkBlock 94 = .ok (.ireturn, 1) := by decide +kernel
theorem f_wx_Walk_walkBlock_27_2 : mblkB b_Walk_walkBlock [(27, .iload 8, vi 0), (29, .iload_n 3, vi 0)] = true := by decide +kernel
theorem e_wx_Walk_walkBlock_30 : decode b_Walk_walkBlock 30 = .ok (.if_icmp .ge 62, 3) := by decide +kernel
theorem f_wx_Walk_walkBlock_33_1 : mblkB b_Walk_walkBlock [(33, .iload 7, vi 0)] = true := by decide +kernel
theorem e_wx_Walk_walkBlock_35 : decode b_Walk_walkBlock 35 = .ok (.ifCond .eq 57, 3) := by decide +kernel
theorem f_wx_Walk_walkBlock_38_2 : mblkB b_Walk_walkBlock [(38, .aload_n 1, vi 0), (39, .iload 8, vi 0)] = true := by decide +kernel
theorem e_wx_Walk_walkBlock_41 : decode b_Walk_walkBlock 41 = .ok (.invokevirtual 81, 3) := by decide +kernel
theorem f_wx_Walk_walkBlock_44_3 : mblkB b_Walk_walkBlock [(44, .istore 10, vi 0), (46, .iload 5, vi 0), (48, .iconst (-1), vi (-1))] = true := by decide +kernel
theorem e_wx_Walk_walkBlock_49 : decode b_Walk_walkBlock 49 = .ok (.if_icmp .ne 7, 3) := by decide +kernel
theorem f_wx_Walk_walkBlock_56_4 : mblkB b_Walk_walkBlock [(56, .aload_n 1, vi 0), (57, .iload 10, vi 0), (59, .iload_n 3, vi 0), (60, .iload 5, vi 0)] = true := by decide +kernel
theorem e_wx_Walk_walkBlock_62 : decode b_Walk_walkBlock 62 = .ok (.invokevirtual 61, 3) := by decide +kernel
theorem f_wx_Walk_walkBlock_65_7 : mblkB b_Walk_walkBlock [(65, .istore 11, vi 0), (67, .aload_n 0, vi 0), (68, .aload_n 1, vi 0), (69, .iload 8, vi 0), (71, .aload 4, vi 0), (73, .iload 11, vi 0), (75, .iload 6, vi 0)] = true := by decide +kernel
theorem e_wx_Walk_walkBlock_77 : decode b_Walk_walkBlock 77 = .ok (.invokevirtual 84, 3) := by decide +kernel
theorem f_wx_Walk_walkBlock_80_5 : mblkB b_Walk_walkBlock [(80, .istore 7, vi 0), (82, .iload 10, vi 0), (84, .istore 8, vi 0), (86, .iinc 9 1, vi 1), (89, .goto (-69), vi 20)] = true := by decide +kernel
theorem f_wx_Walk_walkBlock_52_2 : mblkB b_Walk_walkBlock [(52, .iconst (-1), vi (-1)), (53, .goto 12, vi 65)] = true := by decide +kernel
set_option maxHeartbeats 4000000 in
set_option maxRecDepth 20000 in
theorem wx_Walk_walkBlock {wst : Nat → tG → mA → Nat → Nat → Int → Nat → Int → Int → wQ → Prop} {fr lo : Nat} (hwst : ∀ (l : Launch) (D : va_G) (B : Nat) (H0 : Heap) (G0 : tG) (k0 : Nat) (A : mA) (o : Nat) (a0 : Nat) (a1 : Int) (a2 : Nat) (a3 : Int) (a4 : Int) (h_o : G0 o = some 7) (h_a0 : G0 a0 = some 2) (h_a2 : G0 a2 = some 0)  (Q : wQ), wst k0 G0 A o a0 a1 a2 a3 a4 Q → wMet l D B H0 G0 k0 y_Walk_walkStep b_Walk_walkStep 7 (some .boolean) (fr + 60) (lo + 3000) 1 [vr 7 o, vr 2 a0, vi a1, vr 0 a2, vi a3, vi a4] A Q) : ∀ (l : Launch) (D : va_G) (B : Nat) (H0 : Heap) (G0 : tG) (k0 : Nat) (A : mA) (o : Nat) (a0 : Nat) (a1 : Int) (a2 : Int) (a3 : Nat) (a4 : Int) (a5 : Int) (h_o : G0 o = some 7) (h_a0 : G0 a0 = some 2) (h_a3 : G0 a3 = some 0)  (Q : wQ), w_Walk_walkBlock wst k0 G0 A o a0 a1 a2 a3 a4 a5 Q → wMet l D B H0 G0 k0 y_Walk_walkBlock b_Walk_walkBlock 12 (some .boolean) (fr + 62) (lo + 3060) 1 [vr 7 o, vr 2 a0, vi a1, vi a2, vr 0 a3, vi a4, vi a5] A Q := by
  intro l D B H0 G0 k0 A o a0 a1 a2 a3 a4 a5 h_o h_a0 h_a3 Q h
  refine w_met (by decide) rfl (fun g q0 C Rm Y E => ?_)
  have hd_20 : ∀ (n : Nat) (k : Nat) (G : tG) (q : Nat × Nat) (hgo : ∀ a τ, G0 a = some τ → G a = some τ) (hb : wb q0 k0 q k) (A : mA) (b0 : Nat) (b1 : Nat) (b3 : Int) (b4 : Nat) (b5 : Int) (b6 : Int) (b7 : Int) (b8 : Int) (b9 : Int) , G b0 = some 7 → G b1 = some 2 → G b4 = some 0 → w_Walk_walkBlock_20 wst  n k G A b0 b1 b3 b4 b5 b6 b7 b8 b9 Q → HM g D G q A 20 [(0, vr 7 b0), (1, vr 2 b1), (3, vi b3), (4, vr 0 b4), (5, vi b5), (6, vi b6), (7, vi b7), (8, vi b8), (9, vi b9)] [] := by
    intro  n
    induction n with
    | zero => intro k G q hgo hb A b0 b1 b3 b4 b5 b6 b7 b8 b9 h_b0 h_b1 h_b4 h; exact h.elim
    | succ n ih =>
      intro k G q hgo hb A b0 b1 b3 b4 b5 b6 b7 b8 b9 h_b0 h_b1 h_b4 h
      unfold w_Walk_walkBlock_20 at h
      refine h_blk 24 [(0, vr 7 b0), (1, vr 2 b1), (3, vi b3), (4, vr 0 b4), (5, vi b5), (6, vi b6), (7, vi b7), (8, vi b8), (9, vi b9)] [vi 16, vi b9] C f_wx_Walk_walkBlock_20_2 rfl ?_
      obtain ⟨c1, h⟩ := wgd h
      refine h_icmp_ge (tgt := 92) C e_wx_Walk_walkBlock_24 (by decide) c1 (by decide) (fun c2 => ?_) (fun c2 => ?_)
      · have h := wfp c2 h
        refine h_blk 94 [(0, vr 7 b0), (1, vr 2 b1), (3, vi b3), (4, vr 0 b4), (5, vi b5), (6, vi b6), (7, vi b7), (8, vi b8), (9, vi b9)] [vi b7] C f_wx_Walk_walkBlock_92_1 rfl ?_
        obtain ⟨c3, h⟩ := wgd h
        exact w_zret C Rm E hgo hb c3 e_wx_Walk_walkBlock_94 h
      · have h := wfn c2 h
        refine h_blk 30 [(0, vr 7 b0), (1, vr 2 b1), (3, vi b3), (4, vr 0 b4), (5, vi b5), (6, vi b6), (7, vi b7), (8, vi b8), (9, vi b9)] [vi b3, vi b8] C f_wx_Walk_walkBlock_27_2 rfl ?_
        obtain ⟨c4, h⟩ := wgd h
        obtain ⟨c5, h⟩ := wgd h
        refine h_icmp_ge (tgt := 92) C e_wx_Walk_walkBlock_30 (by decide) c4 c5 (fun c6 => ?_) (fun c6 => ?_)
        · have h := wfp c6 h
          refine h_blk 94 [(0, vr 7 b0), (1, vr 2 b1), (3, vi b3), (4, vr 0 b4), (5, vi b5), (6, vi b6), (7, vi b7), (8, vi b8), (9, vi b9)] [vi b7] C f_wx_Walk_walkBlock_92_1 rfl ?_
          obtain ⟨c7, h⟩ := wgd h
          exact w_zret C Rm E hgo hb c7 e_wx_Walk_walkBlock_94 h
        · have h := wfn c6 h
          refine h_blk 35 [(0, vr 7 b0), (1, vr 2 b1), (3, vi b3), (4, vr 0 b4), (5, vi b5), (6, vi b6), (7, vi b7), (8, vi b8), (9, vi b9)] [vi b7] C f_wx_Walk_walkBlock_33_1 rfl ?_
          obtain ⟨c8, h⟩ := wgd h
          refine h_if_eq (tgt := 92) C e_wx_Walk_walkBlock_35 (by decide) c8 (fun c9 => ?_) (fun c9 => ?_)
          · have h := wfp c9 h
            refine h_blk 94 [(0, vr 7 b0), (1, vr 2 b1), (3, vi b3), (4, vr 0 b4), (5, vi b5), (6, vi b6), (7, vi b7), (8, vi b8), (9, vi b9)] [vi b7] C f_wx_Walk_walkBlock_92_1 rfl ?_
            obtain ⟨c10, h⟩ := wgd h
            exact w_zret C Rm E hgo hb c10 e_wx_Walk_walkBlock_94 h
          · have h := wfn c9 h
            refine h_blk 41 [(0, vr 7 b0), (1, vr 2 b1), (3, vi b3), (4, vr 0 b4), (5, vi b5), (6, vi b6), (7, vi b7), (8, vi b8), (9, vi b9)] [vi b8, vr 2 b1] C f_wx_Walk_walkBlock_38_2 rfl ?_
            obtain ⟨q11, e12, h⟩ := h
            refine w_callV C Rm Y hb [vi b8] [] (hx_Prog_behind l D B H0 G _ b1 b8 h_b1 _ _ e12) cl_Walk_81 h_b1 rfl rfl rfl e_wx_Walk_walkBlock_41 rfl rfl rfl ⟨by show _ ≤ ((fr + 62) : Nat); omega, by show _ ≤ ((lo + 3060) : Nat); omega⟩ ?_
            rintro _ _ ⟨rfl, rfl⟩
            show HM g D G q q11.2 44 [(0, vr 7 b0), (1, vr 2 b1), (3, vi b3), (4, vr 0 b4), (5, vi b5), (6, vi b6), (7, vi b7), (8, vi b8), (9, vi b9)] [vi q11.1]
            refine h_blk 49 [(10, vi q11.1), (0, vr 7 b0), (1, vr 2 b1), (3, vi b3), (4, vr 0 b4), (5, vi b5), (6, vi b6), (7, vi b7), (8, vi b8), (9, vi b9)] [vi (-1), vi b5] C f_wx_Walk_walkBlock_44_3 rfl ?_
            obtain ⟨c13, h⟩ := wgd h
            refine h_icmp_ne (tgt := 56) C e_wx_Walk_walkBlock_49 (by decide) c13 (by decide) (fun c14 => ?_) (fun c14 => ?_)
            · have h := wfn c14 h
              refine h_blk 62 [(10, vi q11.1), (0, vr 7 b0), (1, vr 2 b1), (3, vi b3), (4, vr 0 b4), (5, vi b5), (6, vi b6), (7, vi b7), (8, vi b8), (9, vi b9)] [vi b5, vi b3, vi q11.1, vr 2 b1] C f_wx_Walk_walkBlock_56_4 rfl ?_
              obtain ⟨q15, e16, h⟩ := h
              refine w_callV C Rm Y hb [vi q11.1, vi b3, vi b5] [] (hx_Prog_neededFrom l D B H0 G _ b1 q11.1 b3 b5 h_b1 _ _ e16) cl_Walk_61 h_b1 rfl rfl rfl e_wx_Walk_walkBlock_62 rfl rfl rfl ⟨by show _ ≤ ((fr + 62) : Nat); omega, by show _ ≤ ((lo + 3060) : Nat); omega⟩ ?_
              rintro _ _ ⟨rfl, rfl⟩
              show HM g D G q q15.2 65 [(10, vi q11.1), (0, vr 7 b0), (1, vr 2 b1), (3, vi b3), (4, vr 0 b4), (5, vi b5), (6, vi b6), (7, vi b7), (8, vi b8), (9, vi b9)] [vi q15.1]
              refine h_blk 77 [(11, vi q15.1), (10, vi q11.1), (0, vr 7 b0), (1, vr 2 b1), (3, vi b3), (4, vr 0 b4), (5, vi b5), (6, vi b6), (7, vi b7), (8, vi b8), (9, vi b9)] [vi b6, vi q15.1, vr 0 b4, vi b8, vr 2 b1, vr 7 b0] C f_wx_Walk_walkBlock_65_7 rfl ?_
              refine w_wV C Rm Y hb [vr 2 b1, vi b8, vr 0 b4, vi q15.1, vi b6] [] (hwst l D B H0 G k _ b0 b1 b8 b4 q15.1 b6 h_b0 h_b1 h_b4 _ h) cl_Walk_84 h_b0 rfl rfl rfl e_wx_Walk_walkBlock_77 rfl rfl rfl ⟨by show _ ≤ ((fr + 62) : Nat); omega, by show _ ≤ ((lo + 3060) : Nat); omega⟩ (fun r17 A18 G19 k20 q21 p22 y23 b24 => ?_)
              have h := p22
              refine wk1 ?_
              refine h_blk 20 [(9, vi (b9 + 1)), (8, vi q11.1), (7, vi r17), (11, vi q15.1), (10, vi q11.1), (0, vr 7 b0), (1, vr 2 b1), (3, vi b3), (4, vr 0 b4), (5, vi b5), (6, vi b6)] [] C f_wx_Walk_walkBlock_80_5 rfl ?_
              refine h_loc [(0, vr 7 b0), (1, vr 2 b1), (3, vi b3), (4, vr 0 b4), (5, vi b5), (6, vi b6), (7, vi r17), (8, vi q11.1), (9, vi (b9 + 1))] ⟨rfl, rfl, rfl, rfl, rfl, rfl, rfl, rfl, rfl, trivial⟩ ?_
              exact ih k20 G19 q21 (fun a τ z => y23 a τ (hgo a τ z)) b24 A18 b0 b1 b3 b4 b5 b6 r17 q11.1 (b9 + 1) ((y23 _ _ h_b0)) ((y23 _ _ h_b1)) ((y23 _ _ h_b4)) h
            · have h := wfp c14 h
              refine h_blk 65 [(10, vi q11.1), (0, vr 7 b0), (1, vr 2 b1), (3, vi b3), (4, vr 0 b4), (5, vi b5), (6, vi b6), (7, vi b7), (8, vi b8), (9, vi b9)] [vi (-1)] C f_wx_Walk_walkBlock_52_2 rfl ?_
              refine h_blk 77 [(11, vi (-1)), (10, vi q11.1), (0, vr 7 b0), (1, vr 2 b1), (3, vi b3), (4, vr 0 b4), (5, vi b5), (6, vi b6), (7, vi b7), (8, vi b8), (9, vi b9)] [vi b6, vi (-1), vr 0 b4, vi b8, vr 2 b1, vr 7 b0] C f_wx_Walk_walkBlock_65_7 rfl ?_
              refine w_wV C Rm Y hb [vr 2 b1, vi b8, vr 0 b4, vi (-1), vi b6] [] (hwst l D B H0 G k _ b0 b1 b8 b4 (-1) b6 h_b0 h_b1 h_b4 _ h) cl_Walk_84 h_b0 rfl rfl rfl e_wx_Walk_walkBlock_77 rfl rfl rfl ⟨by show _ ≤ ((fr + 62) : Nat); omega, by show _ ≤ ((lo + 3060) : Nat); omega⟩ (fun r25 A26 G27 k28 q29 p30 y31 b32 => ?_)
              have h := p30
              refine wk1 ?_
              refine h_blk 20 [(9, vi (b9 + 1)), (8, vi q11.1), (7, vi r25), (11, vi (-1)), (10, vi q11.1), (0, vr 7 b0), (1, vr 2 b1), (3, vi b3), (4, vr 0 b4), (5, vi b5), (6, vi b6)] [] C f_wx_Walk_walkBlock_80_5 rfl ?_
              refine h_loc [(0, vr 7 b0), (1, vr 2 b1), (3, vi b3), (4, vr 0 b4), (5, vi b5), (6, vi b6), (7, vi r25), (8, vi q11.1), (9, vi (b9 + 1))] ⟨rfl, rfl, rfl, rfl, rfl, rfl, rfl, rfl, rfl, trivial⟩ ?_
              exact ih k28 G27 q29 (fun a τ z => y31 a τ (hgo a τ z)) b32 A26 b0 b1 b3 b4 b5 b6 r25 q11.1 (b9 + 1) ((y31 _ _ h_b0)) ((y31 _ _ h_b1)) ((y31 _ _ h_b4)) h
  show HM g D G0 q0 A 0 [(0, vr 7 o), (1, vr 2 a0), (2, vi a1), (3, vi a2), (4, vr 0 a3), (5, vi a4), (6, vi a5)] []
  unfold w_Walk_walkBlock at h
  refine h_blk 4 [(0, vr 7 o), (1, vr 2 a0), (2, vi a1), (3, vi a2), (4, vr 0 a3), (5, vi a4), (6, vi a5)] [vi 40, vi a5] C f_wx_Walk_walkBlock_0_2 rfl ?_
  obtain ⟨c33, h⟩ := wgd h
  refine h_icmp_gt (tgt := 11) C e_wx_Walk_walkBlock_4 (by decide) c33 (by decide) (fun c34 => ?_) (fun c34 => ?_)
  · have h := wfp c34 h
    refine h_blk 20 [(9, vi 0), (8, vi a1), (7, vi 0), (0, vr 7 o), (1, vr 2 a0), (2, vi a1), (3, vi a2), (4, vr 0 a3), (5, vi a4), (6, vi a5)] [] C f_wx_Walk_walkBlock_11_6 rfl ?_
    refine h_loc [(0, vr 7 o), (1, vr 2 a0), (3, vi a2), (4, vr 0 a3), (5, vi a4), (6, vi a5), (7, vi 0), (8, vi a1), (9, vi 0)] ⟨rfl, rfl, rfl, rfl, rfl, rfl, rfl, rfl, rfl, trivial⟩ ?_
    exact hd_20 _ k0 G0 q0 (fun _ _ z => z) wb.rfl' A o a0 a2 a3 a4 a5 0 a1 0 (h_o) (h_a0) (h_a3) h
  · have h := wfn c34 h
    refine h_blk 12 [(0, vr 7 o), (1, vr 2 a0), (2, vi a1), (3, vi a2), (4, vr 0 a3), (5, vi a4), (6, vi a5)] [vi 1] C f_wx_Walk_walkBlock_7_2 rfl ?_
    refine h_blk 20 [(9, vi 0), (8, vi a1), (7, vi 1), (0, vr 7 o), (1, vr 2 a0), (2, vi a1), (3, vi a2), (4, vr 0 a3), (5, vi a4), (6, vi a5)] [] C f_wx_Walk_walkBlock_12_5 rfl ?_
    refine h_loc [(0, vr 7 o), (1, vr 2 a0), (3, vi a2), (4, vr 0 a3), (5, vi a4), (6, vi a5), (7, vi 1), (8, vi a1), (9, vi 0)] ⟨rfl, rfl, rfl, rfl, rfl, rfl, rfl, rfl, rfl, trivial⟩ ?_
    exact hd_20 _ k0 G0 q0 (fun _ _ z => z) wb.rfl' A o a0 a2 a3 a4 a5 1 a1 0 (h_o) (h_a0) (h_a3) h

def w_Walk_walkIf (wst : Nat → tG → mA → Nat → Nat → Int → Nat → Int → Int → wQ → Prop) (k0 : Nat) (G0 : tG) (A : mA) (o : Nat) (a0 : Nat) (a1 : Int) (a2 : Nat) (a3 : Int) (a4 : Int) (Q : wQ) : Prop := (w_Walk_lend k0 G0 A o (fun r1 A2 G3 k4 => (if 0 ≤ r1 then (∃ q11, f_Prog_stepAt A2 a0 a1 = some q11 ∧ (∃ q14, f_Walk_split q11.2 o a0 q11.1.toNat a2 r1.toNat = some q14 ∧ (w_Walk_walkBlock wst k4 G3 q14.2 o a0 (a1 + 1) (q14.2 6 q11.1.toNat 5) a2 a3 (a4 + 1) (fun r16 A17 G18 k19 => (if g32 r16 then (if r16 = 0 then (∃ q26, f_Walk_giveBack A17 o = some q26 ∧ (∃ q29, f_Mixer_clear q26.2 ((q26.2 7 o 0).toNat) = some q29 ∧ (Q 0 q29.2 G18 k19))) else (∃ q32, f_Prog_behind A17 a0 a1 = some q32 ∧ (w_Walk_walkBlock wst k19 G18 q32.2 o a0 (A17 6 q11.1.toNat 5) q32.1 r1.toNat a3 (a4 + 1) (fun r34 A35 G36 k37 => (if g32 r34 then (if r34 = 0 then (∃ q44, f_Walk_giveBack A35 o = some q44 ∧ (∃ q47, f_Mixer_clear q44.2 ((q44.2 7 o 0).toNat) = some q47 ∧ (Q 0 q47.2 G36 k37))) else (∃ q50, f_Walk_giveBack A35 o = some q50 ∧ (∃ q53, f_Mixer_clear q50.2 ((q50.2 7 o 0).toNat) = some q53 ∧ (∃ q57, f_CS_maskOf q53.2 a3 = some q57 ∧ (∃ q59, f_Mixer_putAll q57.2 ((q53.2 7 o 0).toNat) a2 q57.1 = some q59 ∧ (if g32 q59.1 then (if q59.1 = 0 then (Q 0 q59.2 G36 k37) else (∃ q64, f_CS_maskOf q59.2 a3 = some q64 ∧ (∃ q66, f_Mixer_putAll q64.2 ((q59.2 7 o 0).toNat) r1.toNat q64.1 = some q66 ∧ (if g32 q66.1 then (if q66.1 = 0 then (Q 0 q66.2 G36 k37) else (if g32 (q66.2 0 a2 3) then (if g32 (q66.2 0 r1.toNat 3) then (∃ q74, f_Mixer_pourInto (mu q66.2 0 a2 3 (max (q66.2 0 a2 3) (q66.2 0 r1.toNat 3))) ((q66.2 7 o 0).toNat) a2 = some q74 ∧ (Q 1 q74.2 G36 k37)) else False) else False)) else False)))) else False)))))) else False))))) else False))))) else (Q 0 A2 G3 k4))))
theorem f_wx_Walk_walkIf_0_1 : mblkB b_Walk_walkIf [(0, .aload_n 0, vi 0)] = true := by decide +kernel
theorem e_wx_Walk_walkIf_1 : decode b_Walk_walkIf 1 = .ok (.invokevirtual 57, 3) := by decide +kernel
theorem f_wx_Walk_walkIf_4_2 : mblkB b_Walk_walkIf [(4, .astore 6, vi 0), (6, .aload 6, vi 0)] = true := by decide +kernel
theorem e_wx_Walk_walkIf_8 : decode b_Walk_walkIf 8 = .ok (.ifnonnull 5, 3) := by decide +kernel
theorem f_wx_Walk_walkIf_13_2 : mblkB b_Walk_walkIf [(13, .aload_n 1, vi 0), (14, .iload_n 2, vi 0)] = true := by decide +kernel
theorem e_wx_Walk_walkIf_15 : decode b_Walk_walkIf 15 = .ok (.invokevirtual 88, 3) := by decide +kernel
theorem f_wx_Walk_walkIf_18_6 : mblkB b_Walk_walkIf [(18, .astore 7, vi 0), (20, .aload_n 0, vi 0), (21, .aload_n 1, vi 0), (22, .aload 7, vi 0), (24, .aload_n 3, vi 0), (25, .aload 6, vi 0)] = true := by decide +kernel
theorem e_wx_Walk_walkIf_27 : decode b_Walk_walkIf 27 = .ok (.invokevirtual 162, 3) := by decide +kernel
theorem f_wx_Walk_walkIf_30_6 : mblkB b_Walk_walkIf [(30, .aload_n 0, vi 0), (31, .aload_n 1, vi 0), (32, .iload_n 2, vi 0), (33, .iconst 1, vi 1), (34, .iadd, vi 0), (35, .aload 7, vi 0)] = true := by decide +kernel
theorem e_wx_Walk_walkIf_37 : decode b_Walk_walkIf 37 = .ok (.getfield 166, 3) := by decide +kernel
theorem f_wx_Walk_walkIf_40_5 : mblkB b_Walk_walkIf [(40, .aload_n 3, vi 0), (41, .iload 4, vi 0), (43, .iload 5, vi 0), (45, .iconst 1, vi 1), (46, .iadd, vi 0)] = true := by decide +kernel
theorem e_wx_Walk_walkIf_47 : decode b_Walk_walkIf 47 = .ok (.invokevirtual 42, 3) := by decide +kernel
theorem e_wx_Walk_walkIf_50 : decode b_Walk_walkIf 50 = .ok (.ifCond .eq 33, 3) := by decide +kernel
theorem f_wx_Walk_walkIf_83_3 : mblkB b_Walk_walkIf [(83, .iconst 0, vi 0), (84, .istore 8, vi 0), (86, .aload_n 0, vi 0)] = true := by decide +kernel
theorem e_wx_Walk_walkIf_87 : decode b_Walk_walkIf 87 = .ok (.invokevirtual 69, 3) := by decide +kernel
theorem f_wx_Walk_walkIf_90_1 : mblkB b_Walk_walkIf [(90, .aload_n 0, vi 0)] = true := by decide +kernel
theorem e_wx_Walk_walkIf_91 : decode b_Walk_walkIf 91 = .ok (.getfield 12, 3) := by decide +kernel
theorem e_wx_Walk_walkIf_94 : decode b_Walk_walkIf 94 = .ok (.invokevirtual 117, 3) := by decide +kernel
theorem f_wx_Walk_walkIf_97_1 : mblkB b_Walk_walkIf [(97, .iload 8, vi 0)] = true := by decide +kernel
theorem e_wx_Walk_walkIf_99 : decode b_Walk_walkIf 99 = .ok (.ifCond .eq 36, 3) := by decide +kernel
theorem f_wx_Walk_walkIf_135_1 : mblkB b_Walk_walkIf [(135, .iconst 0, vi 0)] = true := by decide +kernel
theorem e_wx_Walk_walkIf_136 : decode b_Walk_walkIf 136 = .ok (.ireturn, 1) := by decide +kernel
theorem f_wx_Walk_walkIf_53_3 : mblkB b_Walk_walkIf [(53, .aload_n 0, vi 0), (54, .aload_n 1, vi 0), (55, .aload 7, vi 0)] = true := by decide +kernel
theorem e_wx_Walk_walkIf_57 : decode b_Walk_walkIf 57 = .ok (.getfield 166, 3) := by decide +kernel
theorem f_wx_Walk_walkIf_60_2 : mblkB b_Walk_walkIf [(60, .aload_n 1, vi 0), (61, .iload_n 2, vi 0)] = true := by decide +kernel
theorem e_wx_Walk_walkIf_62 : decode b_Walk_walkIf 62 = .ok (.invokevirtual 81, 3) := by decide +kernel
theorem f_wx_Walk_walkIf_65_5 : mblkB b_Walk_walkIf [(65, .aload 6, vi 0), (67, .iload 4, vi 0), (69, .iload 5, vi 0), (71, .iconst 1, vi 1), (72, .iadd, vi 0)] = true := by decide +kernel
theorem e_wx_Walk_walkIf_73 : decode b_Walk_walkIf 73 = .ok (.invokevirtual 42, 3) := by decide +kernel
theorem e_wx_Walk_walkIf_76 : decode b_Walk_walkIf 76 = .ok (.ifCond .eq 7, 3) := by decide +kernel
theorem f_wx_Walk_walkIf_79_2 : mblkB b_Walk_walkIf [(79, .iconst 1, vi 1), (80, .goto 4, vi 84)] = true := by decide +kernel
theorem f_wx_Walk_walkIf_84_2 : mblkB b_Walk_walkIf [(84, .istore 8, vi 0), (86, .aload_n 0, vi 0)] = true := by decide +kernel
theorem f_wx_Walk_walkIf_102_1 : mblkB b_Walk_walkIf [(102, .aload_n 0, vi 0)] = true := by decide +kernel
theorem e_wx_Walk_walkIf_103 : decode b_Walk_walkIf 103 = .ok (.getfield 12, 3) := by decide +kernel
theorem f_wx_Walk_walkIf_106_2 : mblkB b_Walk_walkIf [(106, .aload_n 3, vi 0), (107, .iload 4, vi 0)] = true := by decide +kernel
theorem e_wx_Walk_walkIf_109 : decode b_Walk_walkIf 109 = .ok (.invokestatic 65, 3) := by decide +kernel
theorem e_wx_Walk_walkIf_112 : decode b_Walk_walkIf 112 = .ok (.invokevirtual 169, 3) := by decide +kernel
theorem e_wx_Walk_walkIf_115 : decode b_Walk_walkIf 115 = .ok (.ifCond .eq 20, 3) := by decide +kernel
theorem f_wx_Walk_walkIf_118_1 : mblkB b_Walk_walkIf [(118, .aload_n 0, vi 0)] = true := by decide +kernel
theorem e_wx_Walk_walkIf_119 : decode b_Walk_walkIf 119 = .ok (.getfield 12, 3) := by decide +kernel
theorem f_wx_Walk_walkIf_122_2 : mblkB b_Walk_walkIf [(122, .aload 6, vi 0), (124, .iload 4, vi 0)] = true := by decide +kernel
theorem e_wx_Walk_walkIf_126 : decode b_Walk_walkIf 126 = .ok (.invokestatic 65, 3) := by decide +kernel
theorem e_wx_Walk_walkIf_129 : decode b_Walk_walkIf 129 = .ok (.invokevirtual 169, 3) := by decide +kernel
theorem e_wx_Walk_walkIf_132 : decode b_Walk_walkIf 132 = .ok (.ifCond .ne 5, 3) := by decide +kernel
theorem f_wx_Walk_walkIf_137_2 : mblkB b_Walk_walkIf [(137, .aload_n 3, vi 0), (138, .aload_n 3, vi 0)] = true := by decide +kernel
theorem e_wx_Walk_walkIf_139 : decode b_Walk_walkIf 139 = .ok (.getfield 54, 3) := by decide +kernel
theorem f_wx_Walk_walkIf_142_1 : mblkB b_Walk_walkIf [(142, .aload 6, vi 0)] = true := by decide +kernel
theorem e_wx_Walk_walkIf_144 : decode b_Walk_walkIf 144 = .ok (.getfield 54, 3) := by decide +kernel
theorem e_wx_Walk_walkIf_147 : decode b_Walk_walkIf 147 = .ok (.invokestatic 75, 3) := by decide +kernel
theorem e_wx_Walk_walkIf_150 : decode b_Walk_walkIf 150 = .ok (.putfield 54, 3) := by decide +kernel
theorem f_wx_Walk_walkIf_153_1 : mblkB b_Walk_walkIf [(153, .aload_n 0, vi 0)] = true := by decide +kernel
theorem e_wx_Walk_walkIf_154 : decode b_Walk_walkIf 154 = .ok (.getfield 12, 3) := by decide +kernel
theorem f_wx_Walk_walkIf_157_1 : mblkB b_Walk_walkIf [(157, .aload_n 3, vi 0)] = true := by decide +kernel
theorem e_wx_Walk_walkIf_158 : decode b_Walk_walkIf 158 = .ok (.invokevirtual 152, 3) := by decide +kernel
theorem f_wx_Walk_walkIf_161_1 : mblkB b_Walk_walkIf [(161, .iconst 1, vi 1)] = true := by decide +kernel
theorem e_wx_Walk_walkIf_162 : decode b_Walk_walkIf 162 = .ok (.ireturn, 1) := by decide +kernel
theorem f_wx_Walk_walkIf_11_1 : mblkB b_Walk_walkIf [(11, .iconst 0, vi 0)] = true := by decide +kernel
theorem e_wx_Walk_walkIf_12 : decode b_Walk_walkIf 12 = .ok (.ireturn, 1) := by decide +kernel
set_option maxHeartbeats 4000000 in
set_option maxRecDepth 20000 in
theorem wx_Walk_walkIf {wst : Nat → tG → mA → Nat → Nat → Int → Nat → Int → Int → wQ → Prop} {fr lo : Nat} (hwst : ∀ (l : Launch) (D : va_G) (B : Nat) (H0 : Heap) (G0 : tG) (k0 : Nat) (A : mA) (o : Nat) (a0 : Nat) (a1 : Int) (a2 : Nat) (a3 : Int) (a4 : Int) (h_o : G0 o = some 7) (h_a0 : G0 a0 = some 2) (h_a2 : G0 a2 = some 0)  (Q : wQ), wst k0 G0 A o a0 a1 a2 a3 a4 Q → wMet l D B H0 G0 k0 y_Walk_walkStep b_Walk_walkStep 7 (some .boolean) (fr + 60) (lo + 3000) 1 [vr 7 o, vr 2 a0, vi a1, vr 0 a2, vi a3, vi a4] A Q) : ∀ (l : Launch) (D : va_G) (B : Nat) (H0 : Heap) (G0 : tG) (k0 : Nat) (A : mA) (o : Nat) (a0 : Nat) (a1 : Int) (a2 : Nat) (a3 : Int) (a4 : Int) (h_o : G0 o = some 7) (h_a0 : G0 a0 = some 2) (h_a2 : G0 a2 = some 0)  (Q : wQ), w_Walk_walkIf wst k0 G0 A o a0 a1 a2 a3 a4 Q → wMet l D B H0 G0 k0 y_Walk_walkIf b_Walk_walkIf 9 (some .boolean) (fr + 64) (lo + 3120) 1 [vr 7 o, vr 2 a0, vi a1, vr 0 a2, vi a3, vi a4] A Q := by
  intro l D B H0 G0 k0 A o a0 a1 a2 a3 a4 h_o h_a0 h_a2 Q h
  refine w_met (by decide) rfl (fun g q0 C Rm Y E => ?_)
  show HM g D G0 q0 A 0 [(0, vr 7 o), (1, vr 2 a0), (2, vi a1), (3, vr 0 a2), (4, vi a3), (5, vi a4)] []
  unfold w_Walk_walkIf at h
  refine h_blk 1 [(0, vr 7 o), (1, vr 2 a0), (2, vi a1), (3, vr 0 a2), (4, vi a3), (5, vi a4)] [vr 7 o] C f_wx_Walk_walkIf_0_1 rfl ?_
  refine w_wV C Rm Y wb.rfl' [] [] (wx_Walk_lend l D B H0 G0 k0 _ o h_o _ h) cl_Walk_57 h_o rfl rfl rfl e_wx_Walk_walkIf_1 rfl rfl rfl ⟨by show _ ≤ ((fr + 64) : Nat); omega, by show _ ≤ ((lo + 3120) : Nat); omega⟩ (fun r1 A2 G3 k4 q5 p6 y7 b8 => ?_)
  have h := p6
  refine wk3 (fun c9 g10 => ?_) (fun c9 => ?_)
  · have h := wfp c9 h
    refine h_blk 8 [(6, vr 0 r1.toNat), (0, vr 7 o), (1, vr 2 a0), (2, vi a1), (3, vr 0 a2), (4, vi a3), (5, vi a4)] [vr 0 r1.toNat] C f_wx_Walk_walkIf_4_2 rfl ?_
    refine h_ifnonnull (tgt := 13) C e_wx_Walk_walkIf_8 (by decide) ?_
    refine h_blk 15 [(6, vr 0 r1.toNat), (0, vr 7 o), (1, vr 2 a0), (2, vi a1), (3, vr 0 a2), (4, vi a3), (5, vi a4)] [vi a1, vr 2 a0] C f_wx_Walk_walkIf_13_2 rfl ?_
    obtain ⟨q11, e12, h⟩ := h
    refine w_callV C Rm Y b8 [vi a1] [] (hx_Prog_stepAt l D B H0 G3 _ a0 a1 (y7 _ _ h_a0) _ _ e12) cl_Walk_88 (y7 _ _ h_a0) rfl rfl rfl e_wx_Walk_walkIf_15 rfl rfl rfl ⟨by show _ ≤ ((fr + 64) : Nat); omega, by show _ ≤ ((lo + 3120) : Nat); omega⟩ ?_
    rintro _ _ ⟨rfl, rfl, g13⟩
    show HM g D G3 q5 q11.2 18 [(6, vr 0 r1.toNat), (0, vr 7 o), (1, vr 2 a0), (2, vi a1), (3, vr 0 a2), (4, vi a3), (5, vi a4)] [vr 6 q11.1.toNat]
    refine h_blk 27 [(7, vr 6 q11.1.toNat), (6, vr 0 r1.toNat), (0, vr 7 o), (1, vr 2 a0), (2, vi a1), (3, vr 0 a2), (4, vi a3), (5, vi a4)] [vr 0 r1.toNat, vr 0 a2, vr 6 q11.1.toNat, vr 2 a0, vr 7 o] C f_wx_Walk_walkIf_18_6 rfl ?_
    obtain ⟨q14, e15, h⟩ := h
    refine w_callV C Rm Y b8 [vr 2 a0, vr 6 q11.1.toNat, vr 0 a2, vr 0 r1.toNat] [] (hx_Walk_split l D B H0 G3 _ o a0 q11.1.toNat a2 r1.toNat (y7 _ _ h_o) (y7 _ _ h_a0) g13 (y7 _ _ h_a2) g10 _ _ e15) cl_Walk_162 (y7 _ _ h_o) rfl rfl rfl e_wx_Walk_walkIf_27 rfl rfl rfl ⟨by show _ ≤ ((fr + 64) : Nat); omega, by show _ ≤ ((lo + 3120) : Nat); omega⟩ ?_
    rintro _ _ ⟨rfl, rfl⟩
    show HM g D G3 q5 q14.2 30 [(7, vr 6 q11.1.toNat), (6, vr 0 r1.toNat), (0, vr 7 o), (1, vr 2 a0), (2, vi a1), (3, vr 0 a2), (4, vi a3), (5, vi a4)] []
    refine h_blk 37 [(7, vr 6 q11.1.toNat), (6, vr 0 r1.toNat), (0, vr 7 o), (1, vr 2 a0), (2, vi a1), (3, vr 0 a2), (4, vi a3), (5, vi a4)] [vr 6 q11.1.toNat, vi (a1 + 1), vr 2 a0, vr 7 o] C f_wx_Walk_walkIf_30_6 rfl ?_
    refine h_geti C e_wx_Walk_walkIf_37 fg_Walk_166 g13 rfl rfl rfl (q14.2 6 q11.1.toNat 5) rfl ?_
    refine h_blk 47 [(7, vr 6 q11.1.toNat), (6, vr 0 r1.toNat), (0, vr 7 o), (1, vr 2 a0), (2, vi a1), (3, vr 0 a2), (4, vi a3), (5, vi a4)] [vi (a4 + 1), vi a3, vr 0 a2, vi (q14.2 6 q11.1.toNat 5), vi (a1 + 1), vr 2 a0, vr 7 o] C f_wx_Walk_walkIf_40_5 rfl ?_
    refine w_wV C Rm Y b8 [vr 2 a0, vi (a1 + 1), vi (q14.2 6 q11.1.toNat 5), vr 0 a2, vi a3, vi (a4 + 1)] [] (wx_Walk_walkBlock hwst l D B H0 G3 k4 _ o a0 (a1 + 1) (q14.2 6 q11.1.toNat 5) a2 a3 (a4 + 1) (y7 _ _ h_o) (y7 _ _ h_a0) (y7 _ _ h_a2) _ h) cl_Walk_42 (y7 _ _ h_o) rfl rfl rfl e_wx_Walk_walkIf_47 rfl rfl rfl ⟨by show _ ≤ ((fr + 64) : Nat); omega, by show _ ≤ ((lo + 3120) : Nat); omega⟩ (fun r16 A17 G18 k19 q20 p21 y22 b23 => ?_)
    have h := p21
    refine wk1 ?_
    obtain ⟨c24, h⟩ := wgd h
    refine h_if_eq (tgt := 83) C e_wx_Walk_walkIf_50 (by decide) c24 (fun c25 => ?_) (fun c25 => ?_)
    · have h := wfp c25 h
      refine h_blk 87 [(8, vi 0), (7, vr 6 q11.1.toNat), (6, vr 0 r1.toNat), (0, vr 7 o), (1, vr 2 a0), (2, vi a1), (3, vr 0 a2), (4, vi a3), (5, vi a4)] [vr 7 o] C f_wx_Walk_walkIf_83_3 rfl ?_
      obtain ⟨q26, e27, h⟩ := h
      refine w_callV C Rm Y b23 [] [] (hx_Walk_giveBack l D B H0 G18 _ o (y22 _ _ (y7 _ _ h_o)) _ _ e27) cl_Walk_69 (y22 _ _ (y7 _ _ h_o)) rfl rfl rfl e_wx_Walk_walkIf_87 rfl rfl rfl ⟨by show _ ≤ ((fr + 64) : Nat); omega, by show _ ≤ ((lo + 3120) : Nat); omega⟩ ?_
      rintro _ _ ⟨rfl, rfl⟩
      show HM g D G18 q20 q26.2 90 [(8, vi 0), (7, vr 6 q11.1.toNat), (6, vr 0 r1.toNat), (0, vr 7 o), (1, vr 2 a0), (2, vi a1), (3, vr 0 a2), (4, vi a3), (5, vi a4)] []
      refine h_blk 91 [(8, vi 0), (7, vr 6 q11.1.toNat), (6, vr 0 r1.toNat), (0, vr 7 o), (1, vr 2 a0), (2, vi a1), (3, vr 0 a2), (4, vi a3), (5, vi a4)] [vr 7 o] C f_wx_Walk_walkIf_90_1 rfl ?_
      refine h_getr4 C e_wx_Walk_walkIf_91 fg_Walk_12 (y22 _ _ (y7 _ _ h_o)) rfl rfl rfl rfl (fun g28 => ?_)
      obtain ⟨q29, e30, h⟩ := h
      refine w_callV C Rm Y b23 [] [] (hx_Mixer_clear l D B H0 G18 _ ((q26.2 7 o 0).toNat) g28 _ _ e30) cl_Walk_117 g28 rfl rfl rfl e_wx_Walk_walkIf_94 rfl rfl rfl ⟨by show _ ≤ ((fr + 64) : Nat); omega, by show _ ≤ ((lo + 3120) : Nat); omega⟩ ?_
      rintro _ _ ⟨rfl, rfl⟩
      show HM g D G18 q20 q29.2 97 [(8, vi 0), (7, vr 6 q11.1.toNat), (6, vr 0 r1.toNat), (0, vr 7 o), (1, vr 2 a0), (2, vi a1), (3, vr 0 a2), (4, vi a3), (5, vi a4)] []
      refine h_blk 99 [(8, vi 0), (7, vr 6 q11.1.toNat), (6, vr 0 r1.toNat), (0, vr 7 o), (1, vr 2 a0), (2, vi a1), (3, vr 0 a2), (4, vi a3), (5, vi a4)] [vi 0] C f_wx_Walk_walkIf_97_1 rfl ?_
      refine h_if_eq (tgt := 135) C e_wx_Walk_walkIf_99 (by decide) (by decide) (fun c31 => ?_) (fun c31 => (by omega : False).elim)
      refine h_blk 136 [(8, vi 0), (7, vr 6 q11.1.toNat), (6, vr 0 r1.toNat), (0, vr 7 o), (1, vr 2 a0), (2, vi a1), (3, vr 0 a2), (4, vi a3), (5, vi a4)] [vi 0] C f_wx_Walk_walkIf_135_1 rfl ?_
      exact w_zret C Rm E (fun a τ z => y22 a τ ((fun a τ z => y7 a τ ((fun _ _ z => z) a τ z)) a τ z)) b23 (Or.inl rfl) e_wx_Walk_walkIf_136 h
    · have h := wfn c25 h
      refine h_blk 57 [(7, vr 6 q11.1.toNat), (6, vr 0 r1.toNat), (0, vr 7 o), (1, vr 2 a0), (2, vi a1), (3, vr 0 a2), (4, vi a3), (5, vi a4)] [vr 6 q11.1.toNat, vr 2 a0, vr 7 o] C f_wx_Walk_walkIf_53_3 rfl ?_
      refine h_geti C e_wx_Walk_walkIf_57 fg_Walk_166 (y22 _ _ g13) rfl rfl rfl (A17 6 q11.1.toNat 5) rfl ?_
      refine h_blk 62 [(7, vr 6 q11.1.toNat), (6, vr 0 r1.toNat), (0, vr 7 o), (1, vr 2 a0), (2, vi a1), (3, vr 0 a2), (4, vi a3), (5, vi a4)] [vi a1, vr 2 a0, vi (A17 6 q11.1.toNat 5), vr 2 a0, vr 7 o] C f_wx_Walk_walkIf_60_2 rfl ?_
      obtain ⟨q32, e33, h⟩ := h
      refine w_callV C Rm Y b23 [vi a1] [vi (A17 6 q11.1.toNat 5), vr 2 a0, vr 7 o] (hx_Prog_behind l D B H0 G18 _ a0 a1 (y22 _ _ (y7 _ _ h_a0)) _ _ e33) cl_Walk_81 (y22 _ _ (y7 _ _ h_a0)) rfl rfl rfl e_wx_Walk_walkIf_62 rfl rfl rfl ⟨by show _ ≤ ((fr + 64) : Nat); omega, by show _ ≤ ((lo + 3120) : Nat); omega⟩ ?_
      rintro _ _ ⟨rfl, rfl⟩
      show HM g D G18 q20 q32.2 65 [(7, vr 6 q11.1.toNat), (6, vr 0 r1.toNat), (0, vr 7 o), (1, vr 2 a0), (2, vi a1), (3, vr 0 a2), (4, vi a3), (5, vi a4)] [vi q32.1, vi (A17 6 q11.1.toNat 5), vr 2 a0, vr 7 o]
      refine h_blk 73 [(7, vr 6 q11.1.toNat), (6, vr 0 r1.toNat), (0, vr 7 o), (1, vr 2 a0), (2, vi a1), (3, vr 0 a2), (4, vi a3), (5, vi a4)] [vi (a4 + 1), vi a3, vr 0 r1.toNat, vi q32.1, vi (A17 6 q11.1.toNat 5), vr 2 a0, vr 7 o] C f_wx_Walk_walkIf_65_5 rfl ?_
      refine w_wV C Rm Y b23 [vr 2 a0, vi (A17 6 q11.1.toNat 5), vi q32.1, vr 0 r1.toNat, vi a3, vi (a4 + 1)] [] (wx_Walk_walkBlock hwst l D B H0 G18 k19 _ o a0 (A17 6 q11.1.toNat 5) q32.1 r1.toNat a3 (a4 + 1) (y22 _ _ (y7 _ _ h_o)) (y22 _ _ (y7 _ _ h_a0)) (y22 _ _ g10) _ h) cl_Walk_42 (y22 _ _ (y7 _ _ h_o)) rfl rfl rfl e_wx_Walk_walkIf_73 rfl rfl rfl ⟨by show _ ≤ ((fr + 64) : Nat); omega, by show _ ≤ ((lo + 3120) : Nat); omega⟩ (fun r34 A35 G36 k37 q38 p39 y40 b41 => ?_)
      have h := p39
      refine wk1 ?_
      obtain ⟨c42, h⟩ := wgd h
      refine h_if_eq (tgt := 83) C e_wx_Walk_walkIf_76 (by decide) c42 (fun c43 => ?_) (fun c43 => ?_)
      · have h := wfp c43 h
        refine h_blk 87 [(8, vi 0), (7, vr 6 q11.1.toNat), (6, vr 0 r1.toNat), (0, vr 7 o), (1, vr 2 a0), (2, vi a1), (3, vr 0 a2), (4, vi a3), (5, vi a4)] [vr 7 o] C f_wx_Walk_walkIf_83_3 rfl ?_
        obtain ⟨q44, e45, h⟩ := h
        refine w_callV C Rm Y b41 [] [] (hx_Walk_giveBack l D B H0 G36 _ o (y40 _ _ (y22 _ _ (y7 _ _ h_o))) _ _ e45) cl_Walk_69 (y40 _ _ (y22 _ _ (y7 _ _ h_o))) rfl rfl rfl e_wx_Walk_walkIf_87 rfl rfl rfl ⟨by show _ ≤ ((fr + 64) : Nat); omega, by show _ ≤ ((lo + 3120) : Nat); omega⟩ ?_
        rintro _ _ ⟨rfl, rfl⟩
        show HM g D G36 q38 q44.2 90 [(8, vi 0), (7, vr 6 q11.1.toNat), (6, vr 0 r1.toNat), (0, vr 7 o), (1, vr 2 a0), (2, vi a1), (3, vr 0 a2), (4, vi a3), (5, vi a4)] []
        refine h_blk 91 [(8, vi 0), (7, vr 6 q11.1.toNat), (6, vr 0 r1.toNat), (0, vr 7 o), (1, vr 2 a0), (2, vi a1), (3, vr 0 a2), (4, vi a3), (5, vi a4)] [vr 7 o] C f_wx_Walk_walkIf_90_1 rfl ?_
        refine h_getr4 C e_wx_Walk_walkIf_91 fg_Walk_12 (y40 _ _ (y22 _ _ (y7 _ _ h_o))) rfl rfl rfl rfl (fun g46 => ?_)
        obtain ⟨q47, e48, h⟩ := h
        refine w_callV C Rm Y b41 [] [] (hx_Mixer_clear l D B H0 G36 _ ((q44.2 7 o 0).toNat) g46 _ _ e48) cl_Walk_117 g46 rfl rfl rfl e_wx_Walk_walkIf_94 rfl rfl rfl ⟨by show _ ≤ ((fr + 64) : Nat); omega, by show _ ≤ ((lo + 3120) : Nat); omega⟩ ?_
        rintro _ _ ⟨rfl, rfl⟩
        show HM g D G36 q38 q47.2 97 [(8, vi 0), (7, vr 6 q11.1.toNat), (6, vr 0 r1.toNat), (0, vr 7 o), (1, vr 2 a0), (2, vi a1), (3, vr 0 a2), (4, vi a3), (5, vi a4)] []
        refine h_blk 99 [(8, vi 0), (7, vr 6 q11.1.toNat), (6, vr 0 r1.toNat), (0, vr 7 o), (1, vr 2 a0), (2, vi a1), (3, vr 0 a2), (4, vi a3), (5, vi a4)] [vi 0] C f_wx_Walk_walkIf_97_1 rfl ?_
        refine h_if_eq (tgt := 135) C e_wx_Walk_walkIf_99 (by decide) (by decide) (fun c49 => ?_) (fun c49 => (by omega : False).elim)
        refine h_blk 136 [(8, vi 0), (7, vr 6 q11.1.toNat), (6, vr 0 r1.toNat), (0, vr 7 o), (1, vr 2 a0), (2, vi a1), (3, vr 0 a2), (4, vi a3), (5, vi a4)] [vi 0] C f_wx_Walk_walkIf_135_1 rfl ?_
        exact w_zret C Rm E (fun a τ z => y40 a τ ((fun a τ z => y22 a τ ((fun a τ z => y7 a τ ((fun _ _ z => z) a τ z)) a τ z)) a τ z)) b41 (Or.inl rfl) e_wx_Walk_walkIf_136 h
      · have h := wfn c43 h
        refine h_blk 84 [(7, vr 6 q11.1.toNat), (6, vr 0 r1.toNat), (0, vr 7 o), (1, vr 2 a0), (2, vi a1), (3, vr 0 a2), (4, vi a3), (5, vi a4)] [vi 1] C f_wx_Walk_walkIf_79_2 rfl ?_
        refine h_blk 87 [(8, vi 1), (7, vr 6 q11.1.toNat), (6, vr 0 r1.toNat), (0, vr 7 o), (1, vr 2 a0), (2, vi a1), (3, vr 0 a2), (4, vi a3), (5, vi a4)] [vr 7 o] C f_wx_Walk_walkIf_84_2 rfl ?_
        obtain ⟨q50, e51, h⟩ := h
        refine w_callV C Rm Y b41 [] [] (hx_Walk_giveBack l D B H0 G36 _ o (y40 _ _ (y22 _ _ (y7 _ _ h_o))) _ _ e51) cl_Walk_69 (y40 _ _ (y22 _ _ (y7 _ _ h_o))) rfl rfl rfl e_wx_Walk_walkIf_87 rfl rfl rfl ⟨by show _ ≤ ((fr + 64) : Nat); omega, by show _ ≤ ((lo + 3120) : Nat); omega⟩ ?_
        rintro _ _ ⟨rfl, rfl⟩
        show HM g D G36 q38 q50.2 90 [(8, vi 1), (7, vr 6 q11.1.toNat), (6, vr 0 r1.toNat), (0, vr 7 o), (1, vr 2 a0), (2, vi a1), (3, vr 0 a2), (4, vi a3), (5, vi a4)] []
        refine h_blk 91 [(8, vi 1), (7, vr 6 q11.1.toNat), (6, vr 0 r1.toNat), (0, vr 7 o), (1, vr 2 a0), (2, vi a1), (3, vr 0 a2), (4, vi a3), (5, vi a4)] [vr 7 o] C f_wx_Walk_walkIf_90_1 rfl ?_
        refine h_getr4 C e_wx_Walk_walkIf_91 fg_Walk_12 (y40 _ _ (y22 _ _ (y7 _ _ h_o))) rfl rfl rfl rfl (fun g52 => ?_)
        obtain ⟨q53, e54, h⟩ := h
        refine w_callV C Rm Y b41 [] [] (hx_Mixer_clear l D B H0 G36 _ ((q50.2 7 o 0).toNat) g52 _ _ e54) cl_Walk_117 g52 rfl rfl rfl e_wx_Walk_walkIf_94 rfl rfl rfl ⟨by show _ ≤ ((fr + 64) : Nat); omega, by show _ ≤ ((lo + 3120) : Nat); omega⟩ ?_
        rintro _ _ ⟨rfl, rfl⟩
        show HM g D G36 q38 q53.2 97 [(8, vi 1), (7, vr 6 q11.1.toNat), (6, vr 0 r1.toNat), (0, vr 7 o), (1, vr 2 a0), (2, vi a1), (3, vr 0 a2), (4, vi a3), (5, vi a4)] []
        refine h_blk 99 [(8, vi 1), (7, vr 6 q11.1.toNat), (6, vr 0 r1.toNat), (0, vr 7 o), (1, vr 2 a0), (2, vi a1), (3, vr 0 a2), (4, vi a3), (5, vi a4)] [vi 1] C f_wx_Walk_walkIf_97_1 rfl ?_
        refine h_if_eq (tgt := 135) C e_wx_Walk_walkIf_99 (by decide) (by decide) (fun c55 => (by omega : False).elim) (fun c55 => ?_)
        refine h_blk 103 [(8, vi 1), (7, vr 6 q11.1.toNat), (6, vr 0 r1.toNat), (0, vr 7 o), (1, vr 2 a0), (2, vi a1), (3, vr 0 a2), (4, vi a3), (5, vi a4)] [vr 7 o] C f_wx_Walk_walkIf_102_1 rfl ?_
        refine h_getr4 C e_wx_Walk_walkIf_103 fg_Walk_12 (y40 _ _ (y22 _ _ (y7 _ _ h_o))) rfl rfl rfl rfl (fun g56 => ?_)
        refine h_blk 109 [(8, vi 1), (7, vr 6 q11.1.toNat), (6, vr 0 r1.toNat), (0, vr 7 o), (1, vr 2 a0), (2, vi a1), (3, vr 0 a2), (4, vi a3), (5, vi a4)] [vi a3, vr 0 a2, vr 1 ((q53.2 7 o 0).toNat)] C f_wx_Walk_walkIf_106_2 rfl ?_
        obtain ⟨q57, e58, h⟩ := h
        refine w_callSn C Rm Y b41 [vi a3] [vr 0 a2, vr 1 ((q53.2 7 o 0).toNat)] (hx_CS_maskOf l D B H0 G36 _ a3 _ _ e58) cl_Walk_65 e_wx_Walk_walkIf_109 rfl rfl rfl ⟨by show _ ≤ ((fr + 64) : Nat); omega, by show _ ≤ ((lo + 3120) : Nat); omega⟩ ?_
        rintro _ _ ⟨rfl, rfl⟩
        show HM g D G36 q38 q57.2 112 [(8, vi 1), (7, vr 6 q11.1.toNat), (6, vr 0 r1.toNat), (0, vr 7 o), (1, vr 2 a0), (2, vi a1), (3, vr 0 a2), (4, vi a3), (5, vi a4)] [vi q57.1, vr 0 a2, vr 1 ((q53.2 7 o 0).toNat)]
        obtain ⟨q59, e60, h⟩ := h
        refine w_callV C Rm Y b41 [vr 0 a2, vi q57.1] [] (hx_Mixer_putAll l D B H0 G36 _ ((q53.2 7 o 0).toNat) a2 q57.1 g56 (y40 _ _ (y22 _ _ (y7 _ _ h_a2))) _ _ e60) cl_Walk_169 g56 rfl rfl rfl e_wx_Walk_walkIf_112 rfl rfl rfl ⟨by show _ ≤ ((fr + 64) : Nat); omega, by show _ ≤ ((lo + 3120) : Nat); omega⟩ ?_
        rintro _ _ ⟨rfl, rfl⟩
        show HM g D G36 q38 q59.2 115 [(8, vi 1), (7, vr 6 q11.1.toNat), (6, vr 0 r1.toNat), (0, vr 7 o), (1, vr 2 a0), (2, vi a1), (3, vr 0 a2), (4, vi a3), (5, vi a4)] [vi q59.1]
        obtain ⟨c61, h⟩ := wgd h
        refine h_if_eq (tgt := 135) C e_wx_Walk_walkIf_115 (by decide) c61 (fun c62 => ?_) (fun c62 => ?_)
        · have h := wfp c62 h
          refine h_blk 136 [(8, vi 1), (7, vr 6 q11.1.toNat), (6, vr 0 r1.toNat), (0, vr 7 o), (1, vr 2 a0), (2, vi a1), (3, vr 0 a2), (4, vi a3), (5, vi a4)] [vi 0] C f_wx_Walk_walkIf_135_1 rfl ?_
          exact w_zret C Rm E (fun a τ z => y40 a τ ((fun a τ z => y22 a τ ((fun a τ z => y7 a τ ((fun _ _ z => z) a τ z)) a τ z)) a τ z)) b41 (Or.inl rfl) e_wx_Walk_walkIf_136 h
        · have h := wfn c62 h
          refine h_blk 119 [(8, vi 1), (7, vr 6 q11.1.toNat), (6, vr 0 r1.toNat), (0, vr 7 o), (1, vr 2 a0), (2, vi a1), (3, vr 0 a2), (4, vi a3), (5, vi a4)] [vr 7 o] C f_wx_Walk_walkIf_118_1 rfl ?_
          refine h_getr4 C e_wx_Walk_walkIf_119 fg_Walk_12 (y40 _ _ (y22 _ _ (y7 _ _ h_o))) rfl rfl rfl rfl (fun g63 => ?_)
          refine h_blk 126 [(8, vi 1), (7, vr 6 q11.1.toNat), (6, vr 0 r1.toNat), (0, vr 7 o), (1, vr 2 a0), (2, vi a1), (3, vr 0 a2), (4, vi a3), (5, vi a4)] [vi a3, vr 0 r1.toNat, vr 1 ((q59.2 7 o 0).toNat)] C f_wx_Walk_walkIf_122_2 rfl ?_
          obtain ⟨q64, e65, h⟩ := h
          refine w_callSn C Rm Y b41 [vi a3] [vr 0 r1.toNat, vr 1 ((q59.2 7 o 0).toNat)] (hx_CS_maskOf l D B H0 G36 _ a3 _ _ e65) cl_Walk_65 e_wx_Walk_walkIf_126 rfl rfl rfl ⟨by show _ ≤ ((fr + 64) : Nat); omega, by show _ ≤ ((lo + 3120) : Nat); omega⟩ ?_
          rintro _ _ ⟨rfl, rfl⟩
          show HM g D G36 q38 q64.2 129 [(8, vi 1), (7, vr 6 q11.1.toNat), (6, vr 0 r1.toNat), (0, vr 7 o), (1, vr 2 a0), (2, vi a1), (3, vr 0 a2), (4, vi a3), (5, vi a4)] [vi q64.1, vr 0 r1.toNat, vr 1 ((q59.2 7 o 0).toNat)]
          obtain ⟨q66, e67, h⟩ := h
          refine w_callV C Rm Y b41 [vr 0 r1.toNat, vi q64.1] [] (hx_Mixer_putAll l D B H0 G36 _ ((q59.2 7 o 0).toNat) r1.toNat q64.1 g63 (y40 _ _ (y22 _ _ g10)) _ _ e67) cl_Walk_169 g63 rfl rfl rfl e_wx_Walk_walkIf_129 rfl rfl rfl ⟨by show _ ≤ ((fr + 64) : Nat); omega, by show _ ≤ ((lo + 3120) : Nat); omega⟩ ?_
          rintro _ _ ⟨rfl, rfl⟩
          show HM g D G36 q38 q66.2 132 [(8, vi 1), (7, vr 6 q11.1.toNat), (6, vr 0 r1.toNat), (0, vr 7 o), (1, vr 2 a0), (2, vi a1), (3, vr 0 a2), (4, vi a3), (5, vi a4)] [vi q66.1]
          obtain ⟨c68, h⟩ := wgd h
          refine h_if_ne (tgt := 137) C e_wx_Walk_walkIf_132 (by decide) c68 (fun c69 => ?_) (fun c69 => ?_)
          · have h := wfn c69 h
            refine h_blk 139 [(8, vi 1), (7, vr 6 q11.1.toNat), (6, vr 0 r1.toNat), (0, vr 7 o), (1, vr 2 a0), (2, vi a1), (3, vr 0 a2), (4, vi a3), (5, vi a4)] [vr 0 a2, vr 0 a2] C f_wx_Walk_walkIf_137_2 rfl ?_
            refine h_geti C e_wx_Walk_walkIf_139 fg_Walk_54 (y40 _ _ (y22 _ _ (y7 _ _ h_a2))) rfl rfl rfl (q66.2 0 a2 3) rfl ?_
            refine h_blk 144 [(8, vi 1), (7, vr 6 q11.1.toNat), (6, vr 0 r1.toNat), (0, vr 7 o), (1, vr 2 a0), (2, vi a1), (3, vr 0 a2), (4, vi a3), (5, vi a4)] [vr 0 r1.toNat, vi (q66.2 0 a2 3), vr 0 a2] C f_wx_Walk_walkIf_142_1 rfl ?_
            refine h_geti C e_wx_Walk_walkIf_144 fg_Walk_54 (y40 _ _ (y22 _ _ g10)) rfl rfl rfl (q66.2 0 r1.toNat 3) rfl ?_
            obtain ⟨c70, h⟩ := wgd h
            obtain ⟨c71, h⟩ := wgd h
            refine w_mmax C Rm b41 cl_Walk_75 e_wx_Walk_walkIf_147 (by show 1 ≤ ((fr + 64) : Nat); omega) (by show 1 + 13 ≤ ((lo + 3120) : Nat); omega) c70 c71 (fun z72 hz72 => ?_)
            obtain rfl : z72 = max (q66.2 0 a2 3) (q66.2 0 r1.toNat 3) := by omega
            refine h_puti C e_wx_Walk_walkIf_150 fp_Walk_54 (y40 _ _ (y22 _ _ (y7 _ _ h_a2))) rfl rfl rfl ?_
            refine h_blk 154 [(8, vi 1), (7, vr 6 q11.1.toNat), (6, vr 0 r1.toNat), (0, vr 7 o), (1, vr 2 a0), (2, vi a1), (3, vr 0 a2), (4, vi a3), (5, vi a4)] [vr 7 o] C f_wx_Walk_walkIf_153_1 rfl ?_
            refine h_getr4 C e_wx_Walk_walkIf_154 fg_Walk_12 (y40 _ _ (y22 _ _ (y7 _ _ h_o))) rfl rfl rfl rfl (fun g73 => ?_)
            refine h_blk 158 [(8, vi 1), (7, vr 6 q11.1.toNat), (6, vr 0 r1.toNat), (0, vr 7 o), (1, vr 2 a0), (2, vi a1), (3, vr 0 a2), (4, vi a3), (5, vi a4)] [vr 0 a2, vr 1 ((q66.2 7 o 0).toNat)] C f_wx_Walk_walkIf_157_1 rfl ?_
            obtain ⟨q74, e75, h⟩ := h
            refine w_callV C Rm Y b41 [vr 0 a2] [] (hx_Mixer_pourInto l D B H0 G36 _ ((q66.2 7 o 0).toNat) a2 g73 (y40 _ _ (y22 _ _ (y7 _ _ h_a2))) _ _ e75) cl_Walk_152 g73 rfl rfl rfl e_wx_Walk_walkIf_158 rfl rfl rfl ⟨by show _ ≤ ((fr + 64) : Nat); omega, by show _ ≤ ((lo + 3120) : Nat); omega⟩ ?_
            rintro _ _ ⟨rfl, rfl⟩
            show HM g D G36 q38 q74.2 161 [(8, vi 1), (7, vr 6 q11.1.toNat), (6, vr 0 r1.toNat), (0, vr 7 o), (1, vr 2 a0), (2, vi a1), (3, vr 0 a2), (4, vi a3), (5, vi a4)] []
            refine h_blk 162 [(8, vi 1), (7, vr 6 q11.1.toNat), (6, vr 0 r1.toNat), (0, vr 7 o), (1, vr 2 a0), (2, vi a1), (3, vr 0 a2), (4, vi a3), (5, vi a4)] [vi 1] C f_wx_Walk_walkIf_161_1 rfl ?_
            exact w_zret C Rm E (fun a τ z => y40 a τ ((fun a τ z => y22 a τ ((fun a τ z => y7 a τ ((fun _ _ z => z) a τ z)) a τ z)) a τ z)) b41 (Or.inr rfl) e_wx_Walk_walkIf_162 h
          · have h := wfp c69 h
            refine h_blk 136 [(8, vi 1), (7, vr 6 q11.1.toNat), (6, vr 0 r1.toNat), (0, vr 7 o), (1, vr 2 a0), (2, vi a1), (3, vr 0 a2), (4, vi a3), (5, vi a4)] [vi 0] C f_wx_Walk_walkIf_135_1 rfl ?_
            exact w_zret C Rm E (fun a τ z => y40 a τ ((fun a τ z => y22 a τ ((fun a τ z => y7 a τ ((fun _ _ z => z) a τ z)) a τ z)) a τ z)) b41 (Or.inl rfl) e_wx_Walk_walkIf_136 h
  · have h := wfn (by omega)  h
    refine h_blk 8 [(6, vn), (0, vr 7 o), (1, vr 2 a0), (2, vi a1), (3, vr 0 a2), (4, vi a3), (5, vi a4)] [vn] C f_wx_Walk_walkIf_4_2 rfl ?_
    refine wn_ifnonnull C e_wx_Walk_walkIf_8 ?_
    refine h_blk 12 [(6, vn), (0, vr 7 o), (1, vr 2 a0), (2, vi a1), (3, vr 0 a2), (4, vi a3), (5, vi a4)] [vi 0] C f_wx_Walk_walkIf_11_1 rfl ?_
    exact w_zret C Rm E (fun a τ z => y7 a τ ((fun _ _ z => z) a τ z)) b8 (Or.inl rfl) e_wx_Walk_walkIf_12 h

def w_Walk_walkLoop_16 (wst : Nat → tG → mA → Nat → Nat → Int → Nat → Int → Int → wQ → Prop) : Nat → Nat → tG → mA → Nat → Nat → Int → Nat → Int → Int → Int → Int → Int → wQ → Prop
  | 0, _, _, _, _, _, _, _, _, _, _, _, _, _ => False
  | n + 1, k, G, A, b0, b1, b2, b3, b4, b5, b6, b7, b8, Q => (if g32 b8 then if g32 b6 then (if b6 < b8 then (if g32 b7 then (if b7 = 0 then (Q 0 A G k) else (∃ q6, f_Walk_forget A b0 b3 b4 = some q6 ∧ (if g32 q6.1 then (if q6.1 = 0 then (Q 0 q6.2 G k) else (Q 1 q6.2 G k)) else False))) else False) else (if g32 b7 then (if b7 = 0 then (Q 0 A G k) else (if g32 b4 then (if b4 = (-1) then (∃ q27, f_Prog_behind A b1 b2 = some q27 ∧ (w_Walk_walkBlock wst k G q27.2 b0 b1 (b2 + 1) q27.1 b3 (-1) (b5 + 1) (fun r29 A30 G31 k32 => (w_Walk_walkLoop_16 wst n k32 G31 A30 b0 b1 b2 b3 b4 b5 b6 r29 (b8 + 1) Q)))) else (∃ q15, f_Prog_neededFromTimes A b1 b2 (b6 - b8) b4 = some q15 ∧ (∃ q17, f_Prog_behind q15.2 b1 b2 = some q17 ∧ (w_Walk_walkBlock wst k G q17.2 b0 b1 (b2 + 1) q17.1 b3 q15.1 (b5 + 1) (fun r19 A20 G21 k22 => (w_Walk_walkLoop_16 wst n k22 G21 A20 b0 b1 b2 b3 b4 b5 b6 r19 (b8 + 1) Q)))))) else False)) else False)) else False else False)
def w_Walk_walkLoop (wst : Nat → tG → mA → Nat → Nat → Int → Nat → Int → Int → wQ → Prop) (k0 : Nat) (G0 : tG) (A : mA) (o : Nat) (a0 : Nat) (a1 : Int) (a2 : Nat) (a3 : Int) (a4 : Int) (Q : wQ) : Prop := (∃ q37, f_Prog_stepAt A a0 a1 = some q37 ∧ (w_Walk_walkLoop_16 wst 20 k0 G0 q37.2 o a0 a1 a2 a3 a4 (q37.2 6 q37.1.toNat 2) 1 1 Q))
theorem f_wx_Walk_walkLoop_0_2 : mblkB b_Walk_walkLoop [(0, .aload_n 1, vi 0), (1, .iload_n 2, vi 0)] = true := by decide +kernel
theorem e_wx_Walk_walkLoop_2 : decode b_Walk_walkLoop 2 = .ok (.invokevirtual 88, 3) := by decide +kernel
theorem e_wx_Walk_walkLoop_5 : decode b_Walk_walkLoop 5 = .ok (.getfield 121, 3) := by decide +kernel
theorem f_wx_Walk_walkLoop_8_5 : mblkB b_Walk_walkLoop [(8, .istore 6, vi 0), (10, .iconst 1, vi 1), (11, .istore 7, vi 0), (13, .iconst 1, vi 1), (14, .istore 8, vi 0)] = true := by decide +kernel
theorem f_wx_Walk_walkLoop_16_2 : mblkB b_Walk_walkLoop [(16, .iload 8, vi 0), (18, .iload 6, vi 0)] = true := by decide +kernel
theorem e_wx_Walk_walkLoop_20 : decode b_Walk_walkLoop 20 = .ok (.if_icmp .gt 60, 3) := by decide +kernel
theorem f_wx_Walk_walkLoop_80_1 : mblkB b_Walk_walkLoop [(80, .iload 7, vi 0)] = true := by decide +kernel
theorem e_wx_Walk_walkLoop_82 : decode b_Walk_walkLoop 82 = .ok (.ifCond .eq 17, 3) := by decide +kernel
theorem f_wx_Walk_walkLoop_99_1 : mblkB b_Walk_walkLoop [(99, .iconst 0, vi 0)] = true := by decide +kernel
theorem e_wx_Walk_walkLoop_100 : decode b_Walk_walkLoop 100 = .ok (.ireturn, 1) := by decide +kernel
theorem f_wx_Walk_walkLoop_85_3 : mblkB b_Walk_walkLoop [(85, .aload_n 0, vi 0), (86, .aload_n 3, vi 0), (87, .iload 4, vi 0)] = true := by decide +kernel
theorem e_wx_Walk_walkLoop_89 : decode b_Walk_walkLoop 89 = .ok (.invokevirtual 180, 3) := by decide +kernel
theorem e_wx_Walk_walkLoop_92 : decode b_Walk_walkLoop 92 = .ok (.ifCond .eq 7, 3) := by decide +kernel
theorem f_wx_Walk_walkLoop_95_2 : mblkB b_Walk_walkLoop [(95, .iconst 1, vi 1), (96, .goto 4, vi 100)] = true := by decide +kernel
theorem f_wx_Walk_walkLoop_23_1 : mblkB b_Walk_walkLoop [(23, .iload 7, vi 0)] = true := by decide +kernel
theorem e_wx_Walk_walkLoop_25 : decode b_Walk_walkLoop 25 = .ok (.ifCond .eq 55, 3) := by decide +kernel
theorem f_wx_Walk_walkLoop_28_2 : mblkB b_Walk_walkLoop [(28, .iload 4, vi 0), (30, .iconst (-1), vi (-1))] = true := by decide +kernel
theorem e_wx_Walk_walkLoop_31 : decode b_Walk_walkLoop 31 = .ok (.if_icmp .ne 7, 3) := by decide +kernel
theorem f_wx_Walk_walkLoop_38_6 : mblkB b_Walk_walkLoop [(38, .aload_n 1, vi 0), (39, .iload_n 2, vi 0), (40, .iload 6, vi 0), (42, .iload 8, vi 0), (44, .isub, vi 0), (45, .iload 4, vi 0)] = true := by decide +kernel
theorem e_wx_Walk_walkLoop_47 : decode b_Walk_walkLoop 47 = .ok (.invokevirtual 177, 3) := by decide +kernel
theorem f_wx_Walk_walkLoop_50_8 : mblkB b_Walk_walkLoop [(50, .istore 9, vi 0), (52, .aload_n 0, vi 0), (53, .aload_n 1, vi 0), (54, .iload_n 2, vi 0), (55, .iconst 1, vi 1), (56, .iadd, vi 0), (57, .aload_n 1, vi 0), (58, .iload_n 2, vi 0)] = true := by decide +kernel
theorem e_wx_Walk_walkLoop_59 : decode b_Walk_walkLoop 59 = .ok (.invokevirtual 81, 3) := by decide +kernel
theorem f_wx_Walk_walkLoop_62_5 : mblkB b_Walk_walkLoop [(62, .aload_n 3, vi 0), (63, .iload 9, vi 0), (65, .iload 5, vi 0), (67, .iconst 1, vi 1), (68, .iadd, vi 0)] = true := by decide +kernel
theorem e_wx_Walk_walkLoop_69 : decode b_Walk_walkLoop 69 = .ok (.invokevirtual 42, 3) := by decide +kernel
theorem f_wx_Walk_walkLoop_72_3 : mblkB b_Walk_walkLoop [(72, .istore 7, vi 0), (74, .iinc 8 1, vi 1), (77, .goto (-61), vi 16)] = true := by decide +kernel
theorem f_wx_Walk_walkLoop_34_2 : mblkB b_Walk_walkLoop [(34, .iconst (-1), vi (-1)), (35, .goto 15, vi 50)] = true := by decide +kernel
set_option maxHeartbeats 4000000 in
set_option maxRecDepth 20000 in
theorem wx_Walk_walkLoop {wst : Nat → tG → mA → Nat → Nat → Int → Nat → Int → Int → wQ → Prop} {fr lo : Nat} (hwst : ∀ (l : Launch) (D : va_G) (B : Nat) (H0 : Heap) (G0 : tG) (k0 : Nat) (A : mA) (o : Nat) (a0 : Nat) (a1 : Int) (a2 : Nat) (a3 : Int) (a4 : Int) (h_o : G0 o = some 7) (h_a0 : G0 a0 = some 2) (h_a2 : G0 a2 = some 0)  (Q : wQ), wst k0 G0 A o a0 a1 a2 a3 a4 Q → wMet l D B H0 G0 k0 y_Walk_walkStep b_Walk_walkStep 7 (some .boolean) (fr + 60) (lo + 3000) 1 [vr 7 o, vr 2 a0, vi a1, vr 0 a2, vi a3, vi a4] A Q) : ∀ (l : Launch) (D : va_G) (B : Nat) (H0 : Heap) (G0 : tG) (k0 : Nat) (A : mA) (o : Nat) (a0 : Nat) (a1 : Int) (a2 : Nat) (a3 : Int) (a4 : Int) (h_o : G0 o = some 7) (h_a0 : G0 a0 = some 2) (h_a2 : G0 a2 = some 0)  (Q : wQ), w_Walk_walkLoop wst k0 G0 A o a0 a1 a2 a3 a4 Q → wMet l D B H0 G0 k0 y_Walk_walkLoop b_Walk_walkLoop 10 (some .boolean) (fr + 64) (lo + 3120) 1 [vr 7 o, vr 2 a0, vi a1, vr 0 a2, vi a3, vi a4] A Q := by
  intro l D B H0 G0 k0 A o a0 a1 a2 a3 a4 h_o h_a0 h_a2 Q h
  refine w_met (by decide) rfl (fun g q0 C Rm Y E => ?_)
  have hd_16 : ∀ (n : Nat) (k : Nat) (G : tG) (q : Nat × Nat) (hgo : ∀ a τ, G0 a = some τ → G a = some τ) (hb : wb q0 k0 q k) (A : mA) (b0 : Nat) (b1 : Nat) (b2 : Int) (b3 : Nat) (b4 : Int) (b5 : Int) (b6 : Int) (b7 : Int) (b8 : Int) , G b0 = some 7 → G b1 = some 2 → G b3 = some 0 → w_Walk_walkLoop_16 wst  n k G A b0 b1 b2 b3 b4 b5 b6 b7 b8 Q → HM g D G q A 16 [(0, vr 7 b0), (1, vr 2 b1), (2, vi b2), (3, vr 0 b3), (4, vi b4), (5, vi b5), (6, vi b6), (7, vi b7), (8, vi b8)] [] := by
    intro  n
    induction n with
    | zero => intro k G q hgo hb A b0 b1 b2 b3 b4 b5 b6 b7 b8 h_b0 h_b1 h_b3 h; exact h.elim
    | succ n ih =>
      intro k G q hgo hb A b0 b1 b2 b3 b4 b5 b6 b7 b8 h_b0 h_b1 h_b3 h
      unfold w_Walk_walkLoop_16 at h
      refine h_blk 20 [(0, vr 7 b0), (1, vr 2 b1), (2, vi b2), (3, vr 0 b3), (4, vi b4), (5, vi b5), (6, vi b6), (7, vi b7), (8, vi b8)] [vi b6, vi b8] C f_wx_Walk_walkLoop_16_2 rfl ?_
      obtain ⟨c1, h⟩ := wgd h
      obtain ⟨c2, h⟩ := wgd h
      refine h_icmp_gt (tgt := 80) C e_wx_Walk_walkLoop_20 (by decide) c1 c2 (fun c3 => ?_) (fun c3 => ?_)
      · have h := wfp c3 h
        refine h_blk 82 [(0, vr 7 b0), (1, vr 2 b1), (2, vi b2), (3, vr 0 b3), (4, vi b4), (5, vi b5), (6, vi b6), (7, vi b7), (8, vi b8)] [vi b7] C f_wx_Walk_walkLoop_80_1 rfl ?_
        obtain ⟨c4, h⟩ := wgd h
        refine h_if_eq (tgt := 99) C e_wx_Walk_walkLoop_82 (by decide) c4 (fun c5 => ?_) (fun c5 => ?_)
        · have h := wfp c5 h
          refine h_blk 100 [(0, vr 7 b0), (1, vr 2 b1), (2, vi b2), (3, vr 0 b3), (4, vi b4), (5, vi b5), (6, vi b6), (7, vi b7), (8, vi b8)] [vi 0] C f_wx_Walk_walkLoop_99_1 rfl ?_
          exact w_zret C Rm E hgo hb (Or.inl rfl) e_wx_Walk_walkLoop_100 h
        · have h := wfn c5 h
          refine h_blk 89 [(0, vr 7 b0), (1, vr 2 b1), (2, vi b2), (3, vr 0 b3), (4, vi b4), (5, vi b5), (6, vi b6), (7, vi b7), (8, vi b8)] [vi b4, vr 0 b3, vr 7 b0] C f_wx_Walk_walkLoop_85_3 rfl ?_
          obtain ⟨q6, e7, h⟩ := h
          refine w_callV C Rm Y hb [vr 0 b3, vi b4] [] (hx_Walk_forget l D B H0 G _ b0 b3 b4 h_b0 h_b3 _ _ e7) cl_Walk_180 h_b0 rfl rfl rfl e_wx_Walk_walkLoop_89 rfl rfl rfl ⟨by show _ ≤ ((fr + 64) : Nat); omega, by show _ ≤ ((lo + 3120) : Nat); omega⟩ ?_
          rintro _ _ ⟨rfl, rfl⟩
          show HM g D G q q6.2 92 [(0, vr 7 b0), (1, vr 2 b1), (2, vi b2), (3, vr 0 b3), (4, vi b4), (5, vi b5), (6, vi b6), (7, vi b7), (8, vi b8)] [vi q6.1]
          obtain ⟨c8, h⟩ := wgd h
          refine h_if_eq (tgt := 99) C e_wx_Walk_walkLoop_92 (by decide) c8 (fun c9 => ?_) (fun c9 => ?_)
          · have h := wfp c9 h
            refine h_blk 100 [(0, vr 7 b0), (1, vr 2 b1), (2, vi b2), (3, vr 0 b3), (4, vi b4), (5, vi b5), (6, vi b6), (7, vi b7), (8, vi b8)] [vi 0] C f_wx_Walk_walkLoop_99_1 rfl ?_
            exact w_zret C Rm E hgo hb (Or.inl rfl) e_wx_Walk_walkLoop_100 h
          · have h := wfn c9 h
            refine h_blk 100 [(0, vr 7 b0), (1, vr 2 b1), (2, vi b2), (3, vr 0 b3), (4, vi b4), (5, vi b5), (6, vi b6), (7, vi b7), (8, vi b8)] [vi 1] C f_wx_Walk_walkLoop_95_2 rfl ?_
            exact w_zret C Rm E hgo hb (Or.inr rfl) e_wx_Walk_walkLoop_100 h
      · have h := wfn c3 h
        refine h_blk 25 [(0, vr 7 b0), (1, vr 2 b1), (2, vi b2), (3, vr 0 b3), (4, vi b4), (5, vi b5), (6, vi b6), (7, vi b7), (8, vi b8)] [vi b7] C f_wx_Walk_walkLoop_23_1 rfl ?_
        obtain ⟨c10, h⟩ := wgd h
        refine h_if_eq (tgt := 80) C e_wx_Walk_walkLoop_25 (by decide) c10 (fun c11 => ?_) (fun c11 => ?_)
        · have h := wfp c11 h
          refine h_blk 82 [(0, vr 7 b0), (1, vr 2 b1), (2, vi b2), (3, vr 0 b3), (4, vi b4), (5, vi b5), (6, vi b6), (7, vi b7), (8, vi b8)] [vi b7] C f_wx_Walk_walkLoop_80_1 rfl ?_
          refine h_if_eq (tgt := 99) C e_wx_Walk_walkLoop_82 (by decide) c10 (fun c12 => ?_) (fun c12 => (by omega : False).elim)
          refine h_blk 100 [(0, vr 7 b0), (1, vr 2 b1), (2, vi b2), (3, vr 0 b3), (4, vi b4), (5, vi b5), (6, vi b6), (7, vi b7), (8, vi b8)] [vi 0] C f_wx_Walk_walkLoop_99_1 rfl ?_
          exact w_zret C Rm E hgo hb (Or.inl rfl) e_wx_Walk_walkLoop_100 h
        · have h := wfn c11 h
          refine h_blk 31 [(0, vr 7 b0), (1, vr 2 b1), (2, vi b2), (3, vr 0 b3), (4, vi b4), (5, vi b5), (6, vi b6), (7, vi b7), (8, vi b8)] [vi (-1), vi b4] C f_wx_Walk_walkLoop_28_2 rfl ?_
          obtain ⟨c13, h⟩ := wgd h
          refine h_icmp_ne (tgt := 38) C e_wx_Walk_walkLoop_31 (by decide) c13 (by decide) (fun c14 => ?_) (fun c14 => ?_)
          · have h := wfn c14 h
            refine h_blk 47 [(0, vr 7 b0), (1, vr 2 b1), (2, vi b2), (3, vr 0 b3), (4, vi b4), (5, vi b5), (6, vi b6), (7, vi b7), (8, vi b8)] [vi b4, vi (b6 - b8), vi b2, vr 2 b1] C f_wx_Walk_walkLoop_38_6 rfl ?_
            obtain ⟨q15, e16, h⟩ := h
            refine w_callV C Rm Y hb [vi b2, vi (b6 - b8), vi b4] [] (hx_Prog_neededFromTimes l D B H0 G _ b1 b2 (b6 - b8) b4 h_b1 _ _ e16) cl_Walk_177 h_b1 rfl rfl rfl e_wx_Walk_walkLoop_47 rfl rfl rfl ⟨by show _ ≤ ((fr + 64) : Nat); omega, by show _ ≤ ((lo + 3120) : Nat); omega⟩ ?_
            rintro _ _ ⟨rfl, rfl⟩
            show HM g D G q q15.2 50 [(0, vr 7 b0), (1, vr 2 b1), (2, vi b2), (3, vr 0 b3), (4, vi b4), (5, vi b5), (6, vi b6), (7, vi b7), (8, vi b8)] [vi q15.1]
            refine h_blk 59 [(9, vi q15.1), (0, vr 7 b0), (1, vr 2 b1), (2, vi b2), (3, vr 0 b3), (4, vi b4), (5, vi b5), (6, vi b6), (7, vi b7), (8, vi b8)] [vi b2, vr 2 b1, vi (b2 + 1), vr 2 b1, vr 7 b0] C f_wx_Walk_walkLoop_50_8 rfl ?_
            obtain ⟨q17, e18, h⟩ := h
            refine w_callV C Rm Y hb [vi b2] [vi (b2 + 1), vr 2 b1, vr 7 b0] (hx_Prog_behind l D B H0 G _ b1 b2 h_b1 _ _ e18) cl_Walk_81 h_b1 rfl rfl rfl e_wx_Walk_walkLoop_59 rfl rfl rfl ⟨by show _ ≤ ((fr + 64) : Nat); omega, by show _ ≤ ((lo + 3120) : Nat); omega⟩ ?_
            rintro _ _ ⟨rfl, rfl⟩
            show HM g D G q q17.2 62 [(9, vi q15.1), (0, vr 7 b0), (1, vr 2 b1), (2, vi b2), (3, vr 0 b3), (4, vi b4), (5, vi b5), (6, vi b6), (7, vi b7), (8, vi b8)] [vi q17.1, vi (b2 + 1), vr 2 b1, vr 7 b0]
            refine h_blk 69 [(9, vi q15.1), (0, vr 7 b0), (1, vr 2 b1), (2, vi b2), (3, vr 0 b3), (4, vi b4), (5, vi b5), (6, vi b6), (7, vi b7), (8, vi b8)] [vi (b5 + 1), vi q15.1, vr 0 b3, vi q17.1, vi (b2 + 1), vr 2 b1, vr 7 b0] C f_wx_Walk_walkLoop_62_5 rfl ?_
            refine w_wV C Rm Y hb [vr 2 b1, vi (b2 + 1), vi q17.1, vr 0 b3, vi q15.1, vi (b5 + 1)] [] (wx_Walk_walkBlock hwst l D B H0 G k _ b0 b1 (b2 + 1) q17.1 b3 q15.1 (b5 + 1) h_b0 h_b1 h_b3 _ h) cl_Walk_42 h_b0 rfl rfl rfl e_wx_Walk_walkLoop_69 rfl rfl rfl ⟨by show _ ≤ ((fr + 64) : Nat); omega, by show _ ≤ ((lo + 3120) : Nat); omega⟩ (fun r19 A20 G21 k22 q23 p24 y25 b26 => ?_)
            have h := p24
            refine wk1 ?_
            refine h_blk 16 [(8, vi (b8 + 1)), (7, vi r19), (9, vi q15.1), (0, vr 7 b0), (1, vr 2 b1), (2, vi b2), (3, vr 0 b3), (4, vi b4), (5, vi b5), (6, vi b6)] [] C f_wx_Walk_walkLoop_72_3 rfl ?_
            refine h_loc [(0, vr 7 b0), (1, vr 2 b1), (2, vi b2), (3, vr 0 b3), (4, vi b4), (5, vi b5), (6, vi b6), (7, vi r19), (8, vi (b8 + 1))] ⟨rfl, rfl, rfl, rfl, rfl, rfl, rfl, rfl, rfl, trivial⟩ ?_
            exact ih k22 G21 q23 (fun a τ z => y25 a τ (hgo a τ z)) b26 A20 b0 b1 b2 b3 b4 b5 b6 r19 (b8 + 1) ((y25 _ _ h_b0)) ((y25 _ _ h_b1)) ((y25 _ _ h_b3)) h
          · have h := wfp c14 h
            refine h_blk 50 [(0, vr 7 b0), (1, vr 2 b1), (2, vi b2), (3, vr 0 b3), (4, vi b4), (5, vi b5), (6, vi b6), (7, vi b7), (8, vi b8)] [vi (-1)] C f_wx_Walk_walkLoop_34_2 rfl ?_
            refine h_blk 59 [(9, vi (-1)), (0, vr 7 b0), (1, vr 2 b1), (2, vi b2), (3, vr 0 b3), (4, vi b4), (5, vi b5), (6, vi b6), (7, vi b7), (8, vi b8)] [vi b2, vr 2 b1, vi (b2 + 1), vr 2 b1, vr 7 b0] C f_wx_Walk_walkLoop_50_8 rfl ?_
            obtain ⟨q27, e28, h⟩ := h
            refine w_callV C Rm Y hb [vi b2] [vi (b2 + 1), vr 2 b1, vr 7 b0] (hx_Prog_behind l D B H0 G _ b1 b2 h_b1 _ _ e28) cl_Walk_81 h_b1 rfl rfl rfl e_wx_Walk_walkLoop_59 rfl rfl rfl ⟨by show _ ≤ ((fr + 64) : Nat); omega, by show _ ≤ ((lo + 3120) : Nat); omega⟩ ?_
            rintro _ _ ⟨rfl, rfl⟩
            show HM g D G q q27.2 62 [(9, vi (-1)), (0, vr 7 b0), (1, vr 2 b1), (2, vi b2), (3, vr 0 b3), (4, vi b4), (5, vi b5), (6, vi b6), (7, vi b7), (8, vi b8)] [vi q27.1, vi (b2 + 1), vr 2 b1, vr 7 b0]
            refine h_blk 69 [(9, vi (-1)), (0, vr 7 b0), (1, vr 2 b1), (2, vi b2), (3, vr 0 b3), (4, vi b4), (5, vi b5), (6, vi b6), (7, vi b7), (8, vi b8)] [vi (b5 + 1), vi (-1), vr 0 b3, vi q27.1, vi (b2 + 1), vr 2 b1, vr 7 b0] C f_wx_Walk_walkLoop_62_5 rfl ?_
            refine w_wV C Rm Y hb [vr 2 b1, vi (b2 + 1), vi q27.1, vr 0 b3, vi (-1), vi (b5 + 1)] [] (wx_Walk_walkBlock hwst l D B H0 G k _ b0 b1 (b2 + 1) q27.1 b3 (-1) (b5 + 1) h_b0 h_b1 h_b3 _ h) cl_Walk_42 h_b0 rfl rfl rfl e_wx_Walk_walkLoop_69 rfl rfl rfl ⟨by show _ ≤ ((fr + 64) : Nat); omega, by show _ ≤ ((lo + 3120) : Nat); omega⟩ (fun r29 A30 G31 k32 q33 p34 y35 b36 => ?_)
            have h := p34
            refine wk1 ?_
            refine h_blk 16 [(8, vi (b8 + 1)), (7, vi r29), (9, vi (-1)), (0, vr 7 b0), (1, vr 2 b1), (2, vi b2), (3, vr 0 b3), (4, vi b4), (5, vi b5), (6, vi b6)] [] C f_wx_Walk_walkLoop_72_3 rfl ?_
            refine h_loc [(0, vr 7 b0), (1, vr 2 b1), (2, vi b2), (3, vr 0 b3), (4, vi b4), (5, vi b5), (6, vi b6), (7, vi r29), (8, vi (b8 + 1))] ⟨rfl, rfl, rfl, rfl, rfl, rfl, rfl, rfl, rfl, trivial⟩ ?_
            exact ih k32 G31 q33 (fun a τ z => y35 a τ (hgo a τ z)) b36 A30 b0 b1 b2 b3 b4 b5 b6 r29 (b8 + 1) ((y35 _ _ h_b0)) ((y35 _ _ h_b1)) ((y35 _ _ h_b3)) h
  show HM g D G0 q0 A 0 [(0, vr 7 o), (1, vr 2 a0), (2, vi a1), (3, vr 0 a2), (4, vi a3), (5, vi a4)] []
  unfold w_Walk_walkLoop at h
  refine h_blk 2 [(0, vr 7 o), (1, vr 2 a0), (2, vi a1), (3, vr 0 a2), (4, vi a3), (5, vi a4)] [vi a1, vr 2 a0] C f_wx_Walk_walkLoop_0_2 rfl ?_
  obtain ⟨q37, e38, h⟩ := h
  refine w_callV C Rm Y wb.rfl' [vi a1] [] (hx_Prog_stepAt l D B H0 G0 _ a0 a1 h_a0 _ _ e38) cl_Walk_88 h_a0 rfl rfl rfl e_wx_Walk_walkLoop_2 rfl rfl rfl ⟨by show _ ≤ ((fr + 64) : Nat); omega, by show _ ≤ ((lo + 3120) : Nat); omega⟩ ?_
  rintro _ _ ⟨rfl, rfl, g39⟩
  show HM g D G0 q0 q37.2 5 [(0, vr 7 o), (1, vr 2 a0), (2, vi a1), (3, vr 0 a2), (4, vi a3), (5, vi a4)] [vr 6 q37.1.toNat]
  refine h_geti C e_wx_Walk_walkLoop_5 fg_Walk_121 g39 rfl rfl rfl (q37.2 6 q37.1.toNat 2) rfl ?_
  refine h_blk 16 [(8, vi 1), (7, vi 1), (6, vi (q37.2 6 q37.1.toNat 2)), (0, vr 7 o), (1, vr 2 a0), (2, vi a1), (3, vr 0 a2), (4, vi a3), (5, vi a4)] [] C f_wx_Walk_walkLoop_8_5 rfl ?_
  refine h_loc [(0, vr 7 o), (1, vr 2 a0), (2, vi a1), (3, vr 0 a2), (4, vi a3), (5, vi a4), (6, vi (q37.2 6 q37.1.toNat 2)), (7, vi 1), (8, vi 1)] ⟨rfl, rfl, rfl, rfl, rfl, rfl, rfl, rfl, rfl, trivial⟩ ?_
  exact hd_16 _ k0 G0 q0 (fun _ _ z => z) wb.rfl' q37.2 o a0 a1 a2 a3 a4 (q37.2 6 q37.1.toNat 2) 1 1 (h_o) (h_a0) (h_a2) h

def w_Walk_walkWhole (wst : Nat → tG → mA → Nat → Nat → Int → Nat → Int → Int → wQ → Prop) (k0 : Nat) (G0 : tG) (A : mA) (o : Nat) (a0 : Nat) (a1 : Int) (a2 : Int) (Q : wQ) : Prop := (w_Walk_lend k0 G0 A o (fun r1 A2 G3 k4 => (if 0 ≤ r1 then (∃ q11, f_CS_withDigit A2 0 0 a1 = some q11 ∧ (∃ q13, f_Crowd_begin q11.2 r1.toNat q11.1 = some q13 ∧ (w_Walk_walkBlock wst k4 G3 q13.2 o a0 0 (q13.2 2 a0 1) r1.toNat (-1) a2 (fun r15 A16 G17 k18 => (∃ q24, f_Runs_keep A16 ((A16 2 a0 12).toNat) a1 r1.toNat r15 = some q24 ∧ (∃ q26, f_Walk_giveBack q24.2 o = some q26 ∧ (Q 0 q26.2 G17 k18))))))) else (Q 0 A2 G3 k4))))
theorem f_wx_Walk_walkWhole_0_1 : mblkB b_Walk_walkWhole [(0, .aload_n 0, vi 0)] = true := by decide +kernel
theorem e_wx_Walk_walkWhole_1 : decode b_Walk_walkWhole 1 = .ok (.invokevirtual 57, 3) := by decide +kernel
theorem f_wx_Walk_walkWhole_4_2 : mblkB b_Walk_walkWhole [(4, .astore 4, vi 0), (6, .aload 4, vi 0)] = true := by decide +kernel
theorem e_wx_Walk_walkWhole_8 : decode b_Walk_walkWhole 8 = .ok (.ifnonnull 4, 3) := by decide +kernel
theorem f_wx_Walk_walkWhole_12_4 : mblkB b_Walk_walkWhole [(12, .aload 4, vi 0), (14, .iconst 0, vi 0), (15, .iconst 0, vi 0), (16, .iload_n 2, vi 0)] = true := by decide +kernel
theorem e_wx_Walk_walkWhole_17 : decode b_Walk_walkWhole 17 = .ok (.invokestatic 135, 3) := by decide +kernel
theorem e_wx_Walk_walkWhole_20 : decode b_Walk_walkWhole 20 = .ok (.invokevirtual 35, 3) := by decide +kernel
theorem f_wx_Walk_walkWhole_23_4 : mblkB b_Walk_walkWhole [(23, .aload_n 0, vi 0), (24, .aload_n 1, vi 0), (25, .iconst 0, vi 0), (26, .aload_n 1, vi 0)] = true := by decide +kernel
theorem e_wx_Walk_walkWhole_27 : decode b_Walk_walkWhole 27 = .ok (.getfield 39, 3) := by decide +kernel
theorem f_wx_Walk_walkWhole_30_3 : mblkB b_Walk_walkWhole [(30, .aload 4, vi 0), (32, .iconst (-1), vi (-1)), (33, .iload_n 3, vi 0)] = true := by decide +kernel
theorem e_wx_Walk_walkWhole_34 : decode b_Walk_walkWhole 34 = .ok (.invokevirtual 42, 3) := by decide +kernel
theorem f_wx_Walk_walkWhole_37_2 : mblkB b_Walk_walkWhole [(37, .istore 5, vi 0), (39, .aload_n 1, vi 0)] = true := by decide +kernel
theorem e_wx_Walk_walkWhole_40 : decode b_Walk_walkWhole 40 = .ok (.getfield 195, 3) := by decide +kernel
theorem f_wx_Walk_walkWhole_43_3 : mblkB b_Walk_walkWhole [(43, .iload_n 2, vi 0), (44, .aload 4, vi 0), (46, .iload 5, vi 0)] = true := by decide +kernel
theorem e_wx_Walk_walkWhole_48 : decode b_Walk_walkWhole 48 = .ok (.invokevirtual 216, 3) := by decide +kernel
theorem f_wx_Walk_walkWhole_51_1 : mblkB b_Walk_walkWhole [(51, .aload_n 0, vi 0)] = true := by decide +kernel
theorem e_wx_Walk_walkWhole_52 : decode b_Walk_walkWhole 52 = .ok (.invokevirtual 69, 3) := by decide +kernel
theorem e_wx_Walk_walkWhole_55 : decode b_Walk_walkWhole 55 = .ok (.return_, 1) := by decide +kernel
theorem e_wx_Walk_walkWhole_11 : decode b_Walk_walkWhole 11 = .ok (.return_, 1) := by decide +kernel
set_option maxHeartbeats 4000000 in
set_option maxRecDepth 20000 in
theorem wx_Walk_walkWhole {wst : Nat → tG → mA → Nat → Nat → Int → Nat → Int → Int → wQ → Prop} {fr lo : Nat} (hwst : ∀ (l : Launch) (D : va_G) (B : Nat) (H0 : Heap) (G0 : tG) (k0 : Nat) (A : mA) (o : Nat) (a0 : Nat) (a1 : Int) (a2 : Nat) (a3 : Int) (a4 : Int) (h_o : G0 o = some 7) (h_a0 : G0 a0 = some 2) (h_a2 : G0 a2 = some 0)  (Q : wQ), wst k0 G0 A o a0 a1 a2 a3 a4 Q → wMet l D B H0 G0 k0 y_Walk_walkStep b_Walk_walkStep 7 (some .boolean) (fr + 60) (lo + 3000) 1 [vr 7 o, vr 2 a0, vi a1, vr 0 a2, vi a3, vi a4] A Q) : ∀ (l : Launch) (D : va_G) (B : Nat) (H0 : Heap) (G0 : tG) (k0 : Nat) (A : mA) (o : Nat) (a0 : Nat) (a1 : Int) (a2 : Int) (h_o : G0 o = some 7) (h_a0 : G0 a0 = some 2)  (Q : wQ), w_Walk_walkWhole wst k0 G0 A o a0 a1 a2 Q → wMet l D B H0 G0 k0 y_Walk_walkWhole b_Walk_walkWhole 6 none (fr + 64) (lo + 3120) 0 [vr 7 o, vr 2 a0, vi a1, vi a2] A Q := by
  intro l D B H0 G0 k0 A o a0 a1 a2 h_o h_a0 Q h
  refine w_met (by decide) rfl (fun g q0 C Rm Y E => ?_)
  show HM g D G0 q0 A 0 [(0, vr 7 o), (1, vr 2 a0), (2, vi a1), (3, vi a2)] []
  unfold w_Walk_walkWhole at h
  refine h_blk 1 [(0, vr 7 o), (1, vr 2 a0), (2, vi a1), (3, vi a2)] [vr 7 o] C f_wx_Walk_walkWhole_0_1 rfl ?_
  refine w_wV C Rm Y wb.rfl' [] [] (wx_Walk_lend l D B H0 G0 k0 _ o h_o _ h) cl_Walk_57 h_o rfl rfl rfl e_wx_Walk_walkWhole_1 rfl rfl rfl ⟨by show _ ≤ ((fr + 64) : Nat); omega, by show _ ≤ ((lo + 3120) : Nat); omega⟩ (fun r1 A2 G3 k4 q5 p6 y7 b8 => ?_)
  have h := p6
  refine wk3 (fun c9 g10 => ?_) (fun c9 => ?_)
  · have h := wfp c9 h
    refine h_blk 8 [(4, vr 0 r1.toNat), (0, vr 7 o), (1, vr 2 a0), (2, vi a1), (3, vi a2)] [vr 0 r1.toNat] C f_wx_Walk_walkWhole_4_2 rfl ?_
    refine h_ifnonnull (tgt := 12) C e_wx_Walk_walkWhole_8 (by decide) ?_
    refine h_blk 17 [(4, vr 0 r1.toNat), (0, vr 7 o), (1, vr 2 a0), (2, vi a1), (3, vi a2)] [vi a1, vi 0, vi 0, vr 0 r1.toNat] C f_wx_Walk_walkWhole_12_4 rfl ?_
    obtain ⟨q11, e12, h⟩ := h
    refine w_callSn C Rm Y b8 [vi 0, vi 0, vi a1] [vr 0 r1.toNat] (hx_CS_withDigit l D B H0 G3 _ 0 0 a1 _ _ e12) cl_Walk_135 e_wx_Walk_walkWhole_17 rfl rfl rfl ⟨by show _ ≤ ((fr + 64) : Nat); omega, by show _ ≤ ((lo + 3120) : Nat); omega⟩ ?_
    rintro _ _ ⟨rfl, rfl⟩
    show HM g D G3 q5 q11.2 20 [(4, vr 0 r1.toNat), (0, vr 7 o), (1, vr 2 a0), (2, vi a1), (3, vi a2)] [vi q11.1, vr 0 r1.toNat]
    obtain ⟨q13, e14, h⟩ := h
    refine w_callV C Rm Y b8 [vi q11.1] [] (hx_Crowd_begin l D B H0 G3 _ r1.toNat q11.1 g10 _ _ e14) cl_Walk_35 g10 rfl rfl rfl e_wx_Walk_walkWhole_20 rfl rfl rfl ⟨by show _ ≤ ((fr + 64) : Nat); omega, by show _ ≤ ((lo + 3120) : Nat); omega⟩ ?_
    rintro _ _ ⟨rfl, rfl⟩
    show HM g D G3 q5 q13.2 23 [(4, vr 0 r1.toNat), (0, vr 7 o), (1, vr 2 a0), (2, vi a1), (3, vi a2)] []
    refine h_blk 27 [(4, vr 0 r1.toNat), (0, vr 7 o), (1, vr 2 a0), (2, vi a1), (3, vi a2)] [vr 2 a0, vi 0, vr 2 a0, vr 7 o] C f_wx_Walk_walkWhole_23_4 rfl ?_
    refine h_geti C e_wx_Walk_walkWhole_27 fg_Walk_39 (y7 _ _ h_a0) rfl rfl rfl (q13.2 2 a0 1) rfl ?_
    refine h_blk 34 [(4, vr 0 r1.toNat), (0, vr 7 o), (1, vr 2 a0), (2, vi a1), (3, vi a2)] [vi a2, vi (-1), vr 0 r1.toNat, vi (q13.2 2 a0 1), vi 0, vr 2 a0, vr 7 o] C f_wx_Walk_walkWhole_30_3 rfl ?_
    refine w_wV C Rm Y b8 [vr 2 a0, vi 0, vi (q13.2 2 a0 1), vr 0 r1.toNat, vi (-1), vi a2] [] (wx_Walk_walkBlock hwst l D B H0 G3 k4 _ o a0 0 (q13.2 2 a0 1) r1.toNat (-1) a2 (y7 _ _ h_o) (y7 _ _ h_a0) g10 _ h) cl_Walk_42 (y7 _ _ h_o) rfl rfl rfl e_wx_Walk_walkWhole_34 rfl rfl rfl ⟨by show _ ≤ ((fr + 64) : Nat); omega, by show _ ≤ ((lo + 3120) : Nat); omega⟩ (fun r15 A16 G17 k18 q19 p20 y21 b22 => ?_)
    have h := p20
    refine wk1 ?_
    refine h_blk 40 [(5, vi r15), (4, vr 0 r1.toNat), (0, vr 7 o), (1, vr 2 a0), (2, vi a1), (3, vi a2)] [vr 2 a0] C f_wx_Walk_walkWhole_37_2 rfl ?_
    refine h_getr4 C e_wx_Walk_walkWhole_40 fg_Walk_195 (y21 _ _ (y7 _ _ h_a0)) rfl rfl rfl rfl (fun g23 => ?_)
    refine h_blk 48 [(5, vi r15), (4, vr 0 r1.toNat), (0, vr 7 o), (1, vr 2 a0), (2, vi a1), (3, vi a2)] [vi r15, vr 0 r1.toNat, vi a1, vr 4 ((A16 2 a0 12).toNat)] C f_wx_Walk_walkWhole_43_3 rfl ?_
    obtain ⟨q24, e25, h⟩ := h
    refine w_callV C Rm Y b22 [vi a1, vr 0 r1.toNat, vi r15] [] (hx_Runs_keep l D B H0 G17 _ ((A16 2 a0 12).toNat) a1 r1.toNat r15 g23 (y21 _ _ g10) _ _ e25) cl_Walk_216 g23 rfl rfl rfl e_wx_Walk_walkWhole_48 rfl rfl rfl ⟨by show _ ≤ ((fr + 64) : Nat); omega, by show _ ≤ ((lo + 3120) : Nat); omega⟩ ?_
    rintro _ _ ⟨rfl, rfl⟩
    show HM g D G17 q19 q24.2 51 [(5, vi r15), (4, vr 0 r1.toNat), (0, vr 7 o), (1, vr 2 a0), (2, vi a1), (3, vi a2)] []
    refine h_blk 52 [(5, vi r15), (4, vr 0 r1.toNat), (0, vr 7 o), (1, vr 2 a0), (2, vi a1), (3, vi a2)] [vr 7 o] C f_wx_Walk_walkWhole_51_1 rfl ?_
    obtain ⟨q26, e27, h⟩ := h
    refine w_callV C Rm Y b22 [] [] (hx_Walk_giveBack l D B H0 G17 _ o (y21 _ _ (y7 _ _ h_o)) _ _ e27) cl_Walk_69 (y21 _ _ (y7 _ _ h_o)) rfl rfl rfl e_wx_Walk_walkWhole_52 rfl rfl rfl ⟨by show _ ≤ ((fr + 64) : Nat); omega, by show _ ≤ ((lo + 3120) : Nat); omega⟩ ?_
    rintro _ _ ⟨rfl, rfl⟩
    show HM g D G17 q19 q26.2 55 [(5, vi r15), (4, vr 0 r1.toNat), (0, vr 7 o), (1, vr 2 a0), (2, vi a1), (3, vi a2)] []
    exact w_vret C Rm E (fun a τ z => y21 a τ ((fun a τ z => y7 a τ ((fun _ _ z => z) a τ z)) a τ z)) b22 e_wx_Walk_walkWhole_55 h
  · have h := wfn (by omega)  h
    refine h_blk 8 [(4, vn), (0, vr 7 o), (1, vr 2 a0), (2, vi a1), (3, vi a2)] [vn] C f_wx_Walk_walkWhole_4_2 rfl ?_
    refine wn_ifnonnull C e_wx_Walk_walkWhole_8 ?_
    exact w_vret C Rm E (fun a τ z => y7 a τ ((fun _ _ z => z) a τ z)) b8 e_wx_Walk_walkWhole_11 h

def w_Walk_canRun_6 (wst : Nat → tG → mA → Nat → Nat → Int → Nat → Int → Int → wQ → Prop) : Nat → Nat → tG → mA → Nat → Nat → Nat → Nat → Nat → Int → Int → Int → wQ → Prop
  | 0, _, _, _, _, _, _, _, _, _, _, _, _ => False
  | n + 1, k, G, A, b0, b1, b2, b3, b4, b5, b6, b7, Q => (if g32 b7 then if g32 (A 0 b3 2) then (if (A 0 b3 2) ≤ b7 then (if (b6 = 0 ∨ b6 = 1) then (Q b6 A G k) else False) else (if 300 ≤ b7 then (if (b6 = 0 ∨ b6 = 1) then (Q b6 A G k) else False) else (if g32 b6 then (if b6 = 0 then (if (b6 = 0 ∨ b6 = 1) then (Q b6 A G k) else False) else (if (0 ≤ b7 ∧ b7 < ((300 : Nat) : Int)) then (∃ q12, f_Prog_digitOf A b1 b2 (A 31 ((A 0 b3 0).toNat) b7.toNat) = some q12 ∧ (∃ q15, f_Runs_isKnown q12.2 ((q12.2 2 b4 12).toNat) q12.1 = some q15 ∧ (if g32 q15.1 then (if q15.1 = 0 then (w_Walk_walkWhole wst k G q15.2 b0 b4 q12.1 (b5 + 1) (fun r22 A23 G24 k25 => (∃ q31, f_Runs_fits A23 ((A23 2 b4 12).toNat) q12.1 = some q31 ∧ (w_Walk_canRun_6 wst n k25 G24 q31.2 b0 b1 b2 b3 b4 b5 q31.1 (b7 + 1) Q)))) else (∃ q20, f_Runs_fits q15.2 ((q15.2 2 b4 12).toNat) q12.1 = some q20 ∧ (w_Walk_canRun_6 wst n k G q20.2 b0 b1 b2 b3 b4 b5 q20.1 (b7 + 1) Q))) else False))) else False)) else False))) else False else False)
def w_Walk_canRun (wst : Nat → tG → mA → Nat → Nat → Int → Nat → Int → Int → wQ → Prop) (k0 : Nat) (G0 : tG) (A : mA) (o : Nat) (a0 : Nat) (a1 : Nat) (a2 : Nat) (a3 : Nat) (a4 : Int) (Q : wQ) : Prop := (w_Walk_canRun_6 wst 400 k0 G0 A o a0 a1 a2 a3 a4 1 0 Q)
theorem f_wx_Walk_canRun_0_4 : mblkB b_Walk_canRun [(0, .iconst 1, vi 1), (1, .istore 6, vi 0), (3, .iconst 0, vi 0), (4, .istore 7, vi 0)] = true := by decide +kernel
theorem f_wx_Walk_canRun_6_2 : mblkB b_Walk_canRun [(6, .iload 7, vi 0), (8, .aload_n 3, vi 0)] = true := by decide +kernel
theorem e_wx_Walk_canRun_9 : decode b_Walk_canRun 9 = .ok (.getfield 120, 3) := by decide +kernel
theorem e_wx_Walk_canRun_12 : decode b_Walk_canRun 12 = .ok (.if_icmp .ge 73, 3) := by decide +kernel
theorem f_wx_Walk_canRun_85_1 : mblkB b_Walk_canRun [(85, .iload 6, vi 0)] = true := by decide +kernel
theorem e_wx_Walk_canRun_87 : decode b_Walk_canRun 87 = .ok (.ireturn, 1) := by decide +kernel
theorem f_wx_Walk_canRun_15_2 : mblkB b_Walk_canRun [(15, .iload 7, vi 0), (17, .sipush 300, vi 300)] = true := by decide +kernel
theorem e_wx_Walk_canRun_20 : decode b_Walk_canRun 20 = .ok (.if_icmp .ge 65, 3) := by decide +kernel
theorem f_wx_Walk_canRun_23_1 : mblkB b_Walk_canRun [(23, .iload 6, vi 0)] = true := by decide +kernel
theorem e_wx_Walk_canRun_25 : decode b_Walk_canRun 25 = .ok (.ifCond .eq 60, 3) := by decide +kernel
theorem f_wx_Walk_canRun_28_3 : mblkB b_Walk_canRun [(28, .aload_n 1, vi 0), (29, .aload_n 2, vi 0), (30, .aload_n 3, vi 0)] = true := by decide +kernel
theorem e_wx_Walk_canRun_31 : decode b_Walk_canRun 31 = .ok (.getfield 124, 3) := by decide +kernel
theorem f_wx_Walk_canRun_34_1 : mblkB b_Walk_canRun [(34, .iload 7, vi 0)] = true := by decide +kernel
theorem e_wx_Walk_canRun_36 : decode b_Walk_canRun 36 = .ok (.iaload, 1) := by decide +kernel
theorem e_wx_Walk_canRun_37 : decode b_Walk_canRun 37 = .ok (.invokevirtual 156, 3) := by decide +kernel
theorem f_wx_Walk_canRun_40_2 : mblkB b_Walk_canRun [(40, .istore 8, vi 0), (42, .aload 4, vi 0)] = true := by decide +kernel
theorem e_wx_Walk_canRun_44 : decode b_Walk_canRun 44 = .ok (.getfield 195, 3) := by decide +kernel
theorem f_wx_Walk_canRun_47_1 : mblkB b_Walk_canRun [(47, .iload 8, vi 0)] = true := by decide +kernel
theorem e_wx_Walk_canRun_49 : decode b_Walk_canRun 49 = .ok (.invokevirtual 205, 3) := by decide +kernel
theorem e_wx_Walk_canRun_52 : decode b_Walk_canRun 52 = .ok (.ifCond .ne 15, 3) := by decide +kernel
theorem f_wx_Walk_canRun_67_1 : mblkB b_Walk_canRun [(67, .aload 4, vi 0)] = true := by decide +kernel
theorem e_wx_Walk_canRun_69 : decode b_Walk_canRun 69 = .ok (.getfield 195, 3) := by decide +kernel
theorem f_wx_Walk_canRun_72_1 : mblkB b_Walk_canRun [(72, .iload 8, vi 0)] = true := by decide +kernel
theorem e_wx_Walk_canRun_74 : decode b_Walk_canRun 74 = .ok (.invokevirtual 213, 3) := by decide +kernel
theorem f_wx_Walk_canRun_77_3 : mblkB b_Walk_canRun [(77, .istore 6, vi 0), (79, .iinc 7 1, vi 1), (82, .goto (-76), vi 6)] = true := by decide +kernel
theorem f_wx_Walk_canRun_55_6 : mblkB b_Walk_canRun [(55, .aload_n 0, vi 0), (56, .aload 4, vi 0), (58, .iload 8, vi 0), (60, .iload 5, vi 0), (62, .iconst 1, vi 1), (63, .iadd, vi 0)] = true := by decide +kernel
theorem e_wx_Walk_canRun_64 : decode b_Walk_canRun 64 = .ok (.invokevirtual 209, 3) := by decide +kernel
set_option maxHeartbeats 4000000 in
set_option maxRecDepth 20000 in
theorem wx_Walk_canRun {wst : Nat → tG → mA → Nat → Nat → Int → Nat → Int → Int → wQ → Prop} {fr lo : Nat} (hwst : ∀ (l : Launch) (D : va_G) (B : Nat) (H0 : Heap) (G0 : tG) (k0 : Nat) (A : mA) (o : Nat) (a0 : Nat) (a1 : Int) (a2 : Nat) (a3 : Int) (a4 : Int) (h_o : G0 o = some 7) (h_a0 : G0 a0 = some 2) (h_a2 : G0 a2 = some 0)  (Q : wQ), wst k0 G0 A o a0 a1 a2 a3 a4 Q → wMet l D B H0 G0 k0 y_Walk_walkStep b_Walk_walkStep 7 (some .boolean) (fr + 60) (lo + 3000) 1 [vr 7 o, vr 2 a0, vi a1, vr 0 a2, vi a3, vi a4] A Q) : ∀ (l : Launch) (D : va_G) (B : Nat) (H0 : Heap) (G0 : tG) (k0 : Nat) (A : mA) (o : Nat) (a0 : Nat) (a1 : Nat) (a2 : Nat) (a3 : Nat) (a4 : Int) (h_o : G0 o = some 7) (h_a0 : G0 a0 = some 2) (h_a1 : G0 a1 = some 6) (h_a2 : G0 a2 = some 0) (h_a3 : G0 a3 = some 2)  (Q : wQ), w_Walk_canRun wst k0 G0 A o a0 a1 a2 a3 a4 Q → wMet l D B H0 G0 k0 y_Walk_canRun b_Walk_canRun 9 (some .boolean) (fr + 66) (lo + 3180) 1 [vr 7 o, vr 2 a0, vr 6 a1, vr 0 a2, vr 2 a3, vi a4] A Q := by
  intro l D B H0 G0 k0 A o a0 a1 a2 a3 a4 h_o h_a0 h_a1 h_a2 h_a3 Q h
  refine w_met (by decide) rfl (fun g q0 C Rm Y E => ?_)
  have hd_6 : ∀ (n : Nat) (k : Nat) (G : tG) (q : Nat × Nat) (hgo : ∀ a τ, G0 a = some τ → G a = some τ) (hb : wb q0 k0 q k) (A : mA) (b0 : Nat) (b1 : Nat) (b2 : Nat) (b3 : Nat) (b4 : Nat) (b5 : Int) (b6 : Int) (b7 : Int) , G b0 = some 7 → G b1 = some 2 → G b2 = some 6 → G b3 = some 0 → G b4 = some 2 → w_Walk_canRun_6 wst  n k G A b0 b1 b2 b3 b4 b5 b6 b7 Q → HM g D G q A 6 [(0, vr 7 b0), (1, vr 2 b1), (2, vr 6 b2), (3, vr 0 b3), (4, vr 2 b4), (5, vi b5), (6, vi b6), (7, vi b7)] [] := by
    intro  n
    induction n with
    | zero => intro k G q hgo hb A b0 b1 b2 b3 b4 b5 b6 b7 h_b0 h_b1 h_b2 h_b3 h_b4 h; exact h.elim
    | succ n ih =>
      intro k G q hgo hb A b0 b1 b2 b3 b4 b5 b6 b7 h_b0 h_b1 h_b2 h_b3 h_b4 h
      unfold w_Walk_canRun_6 at h
      refine h_blk 9 [(0, vr 7 b0), (1, vr 2 b1), (2, vr 6 b2), (3, vr 0 b3), (4, vr 2 b4), (5, vi b5), (6, vi b6), (7, vi b7)] [vr 0 b3, vi b7] C f_wx_Walk_canRun_6_2 rfl ?_
      refine h_geti C e_wx_Walk_canRun_9 fg_Walk_120 h_b3 rfl rfl rfl (A 0 b3 2) rfl ?_
      obtain ⟨c1, h⟩ := wgd h
      obtain ⟨c2, h⟩ := wgd h
      refine h_icmp_ge (tgt := 85) C e_wx_Walk_canRun_12 (by decide) c1 c2 (fun c3 => ?_) (fun c3 => ?_)
      · have h := wfp c3 h
        refine h_blk 87 [(0, vr 7 b0), (1, vr 2 b1), (2, vr 6 b2), (3, vr 0 b3), (4, vr 2 b4), (5, vi b5), (6, vi b6), (7, vi b7)] [vi b6] C f_wx_Walk_canRun_85_1 rfl ?_
        obtain ⟨c4, h⟩ := wgd h
        exact w_zret C Rm E hgo hb c4 e_wx_Walk_canRun_87 h
      · have h := wfn c3 h
        refine h_blk 20 [(0, vr 7 b0), (1, vr 2 b1), (2, vr 6 b2), (3, vr 0 b3), (4, vr 2 b4), (5, vi b5), (6, vi b6), (7, vi b7)] [vi 300, vi b7] C f_wx_Walk_canRun_15_2 rfl ?_
        refine h_icmp_ge (tgt := 85) C e_wx_Walk_canRun_20 (by decide) c1 (by decide) (fun c5 => ?_) (fun c5 => ?_)
        · have h := wfp c5 h
          refine h_blk 87 [(0, vr 7 b0), (1, vr 2 b1), (2, vr 6 b2), (3, vr 0 b3), (4, vr 2 b4), (5, vi b5), (6, vi b6), (7, vi b7)] [vi b6] C f_wx_Walk_canRun_85_1 rfl ?_
          obtain ⟨c6, h⟩ := wgd h
          exact w_zret C Rm E hgo hb c6 e_wx_Walk_canRun_87 h
        · have h := wfn c5 h
          refine h_blk 25 [(0, vr 7 b0), (1, vr 2 b1), (2, vr 6 b2), (3, vr 0 b3), (4, vr 2 b4), (5, vi b5), (6, vi b6), (7, vi b7)] [vi b6] C f_wx_Walk_canRun_23_1 rfl ?_
          obtain ⟨c7, h⟩ := wgd h
          refine h_if_eq (tgt := 85) C e_wx_Walk_canRun_25 (by decide) c7 (fun c8 => ?_) (fun c8 => ?_)
          · have h := wfp c8 h
            refine h_blk 87 [(0, vr 7 b0), (1, vr 2 b1), (2, vr 6 b2), (3, vr 0 b3), (4, vr 2 b4), (5, vi b5), (6, vi b6), (7, vi b7)] [vi b6] C f_wx_Walk_canRun_85_1 rfl ?_
            obtain ⟨c9, h⟩ := wgd h
            exact w_zret C Rm E hgo hb c9 e_wx_Walk_canRun_87 h
          · have h := wfn c8 h
            refine h_blk 31 [(0, vr 7 b0), (1, vr 2 b1), (2, vr 6 b2), (3, vr 0 b3), (4, vr 2 b4), (5, vi b5), (6, vi b6), (7, vi b7)] [vr 0 b3, vr 6 b2, vr 2 b1] C f_wx_Walk_canRun_28_3 rfl ?_
            refine h_getr4 C e_wx_Walk_canRun_31 fg_Walk_124 h_b3 rfl rfl rfl rfl (fun g10 => ?_)
            refine h_blk 36 [(0, vr 7 b0), (1, vr 2 b1), (2, vr 6 b2), (3, vr 0 b3), (4, vr 2 b4), (5, vi b5), (6, vi b6), (7, vi b7)] [vi b7, vr 31 ((A 0 b3 0).toNat), vr 6 b2, vr 2 b1] C f_wx_Walk_canRun_34_1 rfl ?_
            obtain ⟨c11, h⟩ := wgd h
            refine h_iald C e_wx_Walk_canRun_36 g10 rfl rfl (by decide) c11.1 c11.2 (A 31 ((A 0 b3 0).toNat) b7.toNat) rfl ?_
            obtain ⟨q12, e13, h⟩ := h
            refine w_callV C Rm Y hb [vr 6 b2, vi (A 31 ((A 0 b3 0).toNat) b7.toNat)] [] (hx_Prog_digitOf l D B H0 G _ b1 b2 (A 31 ((A 0 b3 0).toNat) b7.toNat) h_b1 h_b2 _ _ e13) cl_Walk_156 h_b1 rfl rfl rfl e_wx_Walk_canRun_37 rfl rfl rfl ⟨by show _ ≤ ((fr + 66) : Nat); omega, by show _ ≤ ((lo + 3180) : Nat); omega⟩ ?_
            rintro _ _ ⟨rfl, rfl⟩
            show HM g D G q q12.2 40 [(0, vr 7 b0), (1, vr 2 b1), (2, vr 6 b2), (3, vr 0 b3), (4, vr 2 b4), (5, vi b5), (6, vi b6), (7, vi b7)] [vi q12.1]
            refine h_blk 44 [(8, vi q12.1), (0, vr 7 b0), (1, vr 2 b1), (2, vr 6 b2), (3, vr 0 b3), (4, vr 2 b4), (5, vi b5), (6, vi b6), (7, vi b7)] [vr 2 b4] C f_wx_Walk_canRun_40_2 rfl ?_
            refine h_getr4 C e_wx_Walk_canRun_44 fg_Walk_195 h_b4 rfl rfl rfl rfl (fun g14 => ?_)
            refine h_blk 49 [(8, vi q12.1), (0, vr 7 b0), (1, vr 2 b1), (2, vr 6 b2), (3, vr 0 b3), (4, vr 2 b4), (5, vi b5), (6, vi b6), (7, vi b7)] [vi q12.1, vr 4 ((q12.2 2 b4 12).toNat)] C f_wx_Walk_canRun_47_1 rfl ?_
            obtain ⟨q15, e16, h⟩ := h
            refine w_callV C Rm Y hb [vi q12.1] [] (hx_Runs_isKnown l D B H0 G _ ((q12.2 2 b4 12).toNat) q12.1 g14 _ _ e16) cl_Walk_205 g14 rfl rfl rfl e_wx_Walk_canRun_49 rfl rfl rfl ⟨by show _ ≤ ((fr + 66) : Nat); omega, by show _ ≤ ((lo + 3180) : Nat); omega⟩ ?_
            rintro _ _ ⟨rfl, rfl⟩
            show HM g D G q q15.2 52 [(8, vi q12.1), (0, vr 7 b0), (1, vr 2 b1), (2, vr 6 b2), (3, vr 0 b3), (4, vr 2 b4), (5, vi b5), (6, vi b6), (7, vi b7)] [vi q15.1]
            obtain ⟨c17, h⟩ := wgd h
            refine h_if_ne (tgt := 67) C e_wx_Walk_canRun_52 (by decide) c17 (fun c18 => ?_) (fun c18 => ?_)
            · have h := wfn c18 h
              refine h_blk 69 [(8, vi q12.1), (0, vr 7 b0), (1, vr 2 b1), (2, vr 6 b2), (3, vr 0 b3), (4, vr 2 b4), (5, vi b5), (6, vi b6), (7, vi b7)] [vr 2 b4] C f_wx_Walk_canRun_67_1 rfl ?_
              refine h_getr4 C e_wx_Walk_canRun_69 fg_Walk_195 h_b4 rfl rfl rfl rfl (fun g19 => ?_)
              refine h_blk 74 [(8, vi q12.1), (0, vr 7 b0), (1, vr 2 b1), (2, vr 6 b2), (3, vr 0 b3), (4, vr 2 b4), (5, vi b5), (6, vi b6), (7, vi b7)] [vi q12.1, vr 4 ((q15.2 2 b4 12).toNat)] C f_wx_Walk_canRun_72_1 rfl ?_
              obtain ⟨q20, e21, h⟩ := h
              refine w_callV C Rm Y hb [vi q12.1] [] (hx_Runs_fits l D B H0 G _ ((q15.2 2 b4 12).toNat) q12.1 g19 _ _ e21) cl_Walk_213 g19 rfl rfl rfl e_wx_Walk_canRun_74 rfl rfl rfl ⟨by show _ ≤ ((fr + 66) : Nat); omega, by show _ ≤ ((lo + 3180) : Nat); omega⟩ ?_
              rintro _ _ ⟨rfl, rfl⟩
              show HM g D G q q20.2 77 [(8, vi q12.1), (0, vr 7 b0), (1, vr 2 b1), (2, vr 6 b2), (3, vr 0 b3), (4, vr 2 b4), (5, vi b5), (6, vi b6), (7, vi b7)] [vi q20.1]
              refine h_blk 6 [(7, vi (b7 + 1)), (6, vi q20.1), (8, vi q12.1), (0, vr 7 b0), (1, vr 2 b1), (2, vr 6 b2), (3, vr 0 b3), (4, vr 2 b4), (5, vi b5)] [] C f_wx_Walk_canRun_77_3 rfl ?_
              refine h_loc [(0, vr 7 b0), (1, vr 2 b1), (2, vr 6 b2), (3, vr 0 b3), (4, vr 2 b4), (5, vi b5), (6, vi q20.1), (7, vi (b7 + 1))] ⟨rfl, rfl, rfl, rfl, rfl, rfl, rfl, rfl, trivial⟩ ?_
              exact ih k G q hgo hb q20.2 b0 b1 b2 b3 b4 b5 q20.1 (b7 + 1) (h_b0) (h_b1) (h_b2) (h_b3) (h_b4) h
            · have h := wfp c18 h
              refine h_blk 64 [(8, vi q12.1), (0, vr 7 b0), (1, vr 2 b1), (2, vr 6 b2), (3, vr 0 b3), (4, vr 2 b4), (5, vi b5), (6, vi b6), (7, vi b7)] [vi (b5 + 1), vi q12.1, vr 2 b4, vr 7 b0] C f_wx_Walk_canRun_55_6 rfl ?_
              refine w_wV C Rm Y hb [vr 2 b4, vi q12.1, vi (b5 + 1)] [] (wx_Walk_walkWhole hwst l D B H0 G k _ b0 b4 q12.1 (b5 + 1) h_b0 h_b4 _ h) cl_Walk_209 h_b0 rfl rfl rfl e_wx_Walk_canRun_64 rfl rfl rfl ⟨by show _ ≤ ((fr + 66) : Nat); omega, by show _ ≤ ((lo + 3180) : Nat); omega⟩ (fun r22 A23 G24 k25 q26 p27 y28 b29 => ?_)
              have h := p27
              refine wk0 ?_
              refine h_blk 69 [(8, vi q12.1), (0, vr 7 b0), (1, vr 2 b1), (2, vr 6 b2), (3, vr 0 b3), (4, vr 2 b4), (5, vi b5), (6, vi b6), (7, vi b7)] [vr 2 b4] C f_wx_Walk_canRun_67_1 rfl ?_
              refine h_getr4 C e_wx_Walk_canRun_69 fg_Walk_195 (y28 _ _ h_b4) rfl rfl rfl rfl (fun g30 => ?_)
              refine h_blk 74 [(8, vi q12.1), (0, vr 7 b0), (1, vr 2 b1), (2, vr 6 b2), (3, vr 0 b3), (4, vr 2 b4), (5, vi b5), (6, vi b6), (7, vi b7)] [vi q12.1, vr 4 ((A23 2 b4 12).toNat)] C f_wx_Walk_canRun_72_1 rfl ?_
              obtain ⟨q31, e32, h⟩ := h
              refine w_callV C Rm Y b29 [vi q12.1] [] (hx_Runs_fits l D B H0 G24 _ ((A23 2 b4 12).toNat) q12.1 g30 _ _ e32) cl_Walk_213 g30 rfl rfl rfl e_wx_Walk_canRun_74 rfl rfl rfl ⟨by show _ ≤ ((fr + 66) : Nat); omega, by show _ ≤ ((lo + 3180) : Nat); omega⟩ ?_
              rintro _ _ ⟨rfl, rfl⟩
              show HM g D G24 q26 q31.2 77 [(8, vi q12.1), (0, vr 7 b0), (1, vr 2 b1), (2, vr 6 b2), (3, vr 0 b3), (4, vr 2 b4), (5, vi b5), (6, vi b6), (7, vi b7)] [vi q31.1]
              refine h_blk 6 [(7, vi (b7 + 1)), (6, vi q31.1), (8, vi q12.1), (0, vr 7 b0), (1, vr 2 b1), (2, vr 6 b2), (3, vr 0 b3), (4, vr 2 b4), (5, vi b5)] [] C f_wx_Walk_canRun_77_3 rfl ?_
              refine h_loc [(0, vr 7 b0), (1, vr 2 b1), (2, vr 6 b2), (3, vr 0 b3), (4, vr 2 b4), (5, vi b5), (6, vi q31.1), (7, vi (b7 + 1))] ⟨rfl, rfl, rfl, rfl, rfl, rfl, rfl, rfl, trivial⟩ ?_
              exact ih k25 G24 q26 (fun a τ z => y28 a τ (hgo a τ z)) b29 q31.2 b0 b1 b2 b3 b4 b5 q31.1 (b7 + 1) ((y28 _ _ h_b0)) ((y28 _ _ h_b1)) ((y28 _ _ h_b2)) ((y28 _ _ h_b3)) ((y28 _ _ h_b4)) h
  show HM g D G0 q0 A 0 [(0, vr 7 o), (1, vr 2 a0), (2, vr 6 a1), (3, vr 0 a2), (4, vr 2 a3), (5, vi a4)] []
  unfold w_Walk_canRun at h
  refine h_blk 6 [(7, vi 0), (6, vi 1), (0, vr 7 o), (1, vr 2 a0), (2, vr 6 a1), (3, vr 0 a2), (4, vr 2 a3), (5, vi a4)] [] C f_wx_Walk_canRun_0_4 rfl ?_
  refine h_loc [(0, vr 7 o), (1, vr 2 a0), (2, vr 6 a1), (3, vr 0 a2), (4, vr 2 a3), (5, vi a4), (6, vi 1), (7, vi 0)] ⟨rfl, rfl, rfl, rfl, rfl, rfl, rfl, rfl, trivial⟩ ?_
  exact hd_6 _ k0 G0 q0 (fun _ _ z => z) wb.rfl' A o a0 a1 a2 a3 a4 1 0 (h_o) (h_a0) (h_a1) (h_a2) (h_a3) h

def w_Walk_walkRun_126 (wst : Nat → tG → mA → Nat → Nat → Int → Nat → Int → Int → wQ → Prop) (c_77 : Nat → tG → mA → Nat → Nat → Nat → Nat → Nat → Int → Int → wQ → Prop) : Nat → Nat → tG → mA → Nat → Nat → Nat → Nat → Nat → Int → Int → Int → Int → Int → wQ → Prop
  | 0, _, _, _, _, _, _, _, _, _, _, _, _, _, _ => False
  | n + 1, k, G, A, b0, b1, b2, b3, b6, b7, b8, b9, b10, b12, Q => (if g32 b12 then (if 10 ≤ b12 then (c_77 k G A b0 b1 b2 b3 b6 b7 (b8 + 1) Q) else (∃ q4, f_Runs_weight A ((A 2 b6 12).toNat) b9 b12 = some q4 ∧ (if g64 (b10 * (lShr q4.1 (50 - (q4.2 2 b6 8)))) then (if (lc (b10 * (lShr q4.1 (50 - (q4.2 2 b6 8)))) 0) ≤ 0 then (w_Walk_walkRun_126 wst c_77 n k G q4.2 b0 b1 b2 b3 b6 b7 b8 b9 b10 (b12 + 1) Q) else (if (0 ≤ b8 ∧ b8 < ((300 : Nat) : Int)) then (∃ q12, f_CS_withDigit q4.2 (q4.2 31 ((q4.2 0 b3 0).toNat) b8.toNat) (q4.2 6 b2 1) b12 = some q12 ∧ (∃ q14, f_Mixer_put q12.2 ((q4.2 7 b0 0).toNat) (iAnd q12.1 b7) (b10 * (lShr q4.1 (50 - (q4.2 2 b6 8)))) = some q14 ∧ (if g32 q14.1 then (if q14.1 = 0 then (Q 0 q14.2 G k) else (w_Walk_walkRun_126 wst c_77 n k G q14.2 b0 b1 b2 b3 b6 b7 b8 b9 b10 (b12 + 1) Q)) else False))) else False)) else False))) else False)
def w_Walk_walkRun_77 (wst : Nat → tG → mA → Nat → Nat → Int → Nat → Int → Int → wQ → Prop) : Nat → Nat → tG → mA → Nat → Nat → Nat → Nat → Nat → Int → Int → wQ → Prop
  | 0, _, _, _, _, _, _, _, _, _, _, _ => False
  | n + 1, k, G, A, b0, b1, b2, b3, b6, b7, b8, Q => (if g32 b8 then if g32 (A 0 b3 2) then (if (A 0 b3 2) ≤ b8 then (∃ q22, f_Mixer_pourInto A ((A 7 b0 0).toNat) b3 = some q22 ∧ (Q 1 q22.2 G k)) else (if 300 ≤ b8 then (∃ q26, f_Mixer_pourInto A ((A 7 b0 0).toNat) b3 = some q26 ∧ (Q 1 q26.2 G k)) else (if (0 ≤ b8 ∧ b8 < ((300 : Nat) : Int)) then (∃ q30, f_Prog_digitOf A b1 b2 (A 31 ((A 0 b3 0).toNat) b8.toNat) = some q30 ∧ (w_Walk_walkRun_126 wst (w_Walk_walkRun_77 wst  n) 400 k G q30.2 b0 b1 b2 b3 b6 b7 b8 q30.1 (lShr (q30.2 32 ((q30.2 0 b3 1).toNat) b8.toNat) (q30.2 2 b6 8)) 0 Q)) else False))) else False else False)
def w_Walk_walkRun (wst : Nat → tG → mA → Nat → Nat → Int → Nat → Int → Int → wQ → Prop) (k0 : Nat) (G0 : tG) (A : mA) (o : Nat) (a0 : Nat) (a1 : Nat) (a2 : Nat) (a3 : Int) (a4 : Int) (Q : wQ) : Prop := (if g32 a3 then (if a3 = (-1) then (if 0 ≤ (A 6 a1 13) then (w_Walk_canRun wst k0 G0 A o a0 a1 a2 ((A 6 a1 13).toNat) a4 (fun r37 A38 G39 k40 => (if g32 r37 then (if r37 = 0 then (Q 0 A38 G39 k40) else (∃ q47, f_CS_maskOf A38 a3 = some q47 ∧ (∃ q50, f_Mixer_clear q47.2 ((q47.2 7 o 0).toNat) = some q50 ∧ (w_Walk_walkRun_77 wst 400 k40 G39 q50.2 o a0 a1 a2 ((A 6 a1 13).toNat) q47.1 0 Q)))) else False))) else False) else (if (iAnd (iShr a3 (A 6 a1 1)) 1) = 0 then (if g32 (A 6 a1 12) then (if (A 6 a1 12) = 0 then (∃ q89, f_Walk_forget A o a2 a3 = some q89 ∧ (if (q89.1 = 0 ∨ q89.1 = 1) then (Q q89.1 q89.2 G0 k0) else False)) else (if 0 ≤ (A 6 a1 13) then (w_Walk_canRun wst k0 G0 A o a0 a1 a2 ((A 6 a1 13).toNat) a4 (fun r74 A75 G76 k77 => (if g32 r74 then (if r74 = 0 then (Q 0 A75 G76 k77) else (∃ q84, f_CS_maskOf A75 a3 = some q84 ∧ (∃ q87, f_Mixer_clear q84.2 ((q84.2 7 o 0).toNat) = some q87 ∧ (w_Walk_walkRun_77 wst 400 k77 G76 q87.2 o a0 a1 a2 ((A 6 a1 13).toNat) q84.1 0 Q)))) else False))) else False)) else False) else (if 0 ≤ (A 6 a1 13) then (w_Walk_canRun wst k0 G0 A o a0 a1 a2 ((A 6 a1 13).toNat) a4 (fun r55 A56 G57 k58 => (if g32 r55 then (if r55 = 0 then (Q 0 A56 G57 k58) else (∃ q65, f_CS_maskOf A56 a3 = some q65 ∧ (∃ q68, f_Mixer_clear q65.2 ((q65.2 7 o 0).toNat) = some q68 ∧ (w_Walk_walkRun_77 wst 400 k58 G57 q68.2 o a0 a1 a2 ((A 6 a1 13).toNat) q65.1 0 Q)))) else False))) else False))) else False)
theorem f_wx_Walk_walkRun_0_2 : mblkB b_Walk_walkRun [(0, .iload 4, vi 0), (2, .iconst (-1), vi (-1))] = true := by decide +kernel
theorem e_wx_Walk_walkRun_3 : decode b_Walk_walkRun 3 = .ok (.if_icmp .eq 30, 3) := by decide +kernel
theorem f_wx_Walk_walkRun_33_1 : mblkB b_Walk_walkRun [(33, .aload_n 2, vi 0)] = true := by decide +kernel
theorem e_wx_Walk_walkRun_34 : decode b_Walk_walkRun 34 = .ok (.getfield 186, 3) := by decide +kernel
theorem f_wx_Walk_walkRun_37_2 : mblkB b_Walk_walkRun [(37, .astore 6, vi 0), (39, .aload 6, vi 0)] = true := by decide +kernel
theorem e_wx_Walk_walkRun_41 : decode b_Walk_walkRun 41 = .ok (.ifnull 17, 3) := by decide +kernel
theorem f_wx_Walk_walkRun_44_6 : mblkB b_Walk_walkRun [(44, .aload_n 0, vi 0), (45, .aload_n 1, vi 0), (46, .aload_n 2, vi 0), (47, .aload_n 3, vi 0), (48, .aload 6, vi 0), (50, .iload 5, vi 0)] = true := by decide +kernel
theorem e_wx_Walk_walkRun_52 : decode b_Walk_walkRun 52 = .ok (.invokevirtual 190, 3) := by decide +kernel
theorem e_wx_Walk_walkRun_55 : decode b_Walk_walkRun 55 = .ok (.ifCond .ne 5, 3) := by decide +kernel
theorem f_wx_Walk_walkRun_60_1 : mblkB b_Walk_walkRun [(60, .iload 4, vi 0)] = true := by decide +kernel
theorem e_wx_Walk_walkRun_62 : decode b_Walk_walkRun 62 = .ok (.invokestatic 65, 3) := by decide +kernel
theorem f_wx_Walk_walkRun_65_2 : mblkB b_Walk_walkRun [(65, .istore 7, vi 0), (67, .aload_n 0, vi 0)] = true := by decide +kernel
theorem e_wx_Walk_walkRun_68 : decode b_Walk_walkRun 68 = .ok (.getfield 12, 3) := by decide +kernel
theorem e_wx_Walk_walkRun_71 : decode b_Walk_walkRun 71 = .ok (.invokevirtual 117, 3) := by decide +kernel
theorem f_wx_Walk_walkRun_74_2 : mblkB b_Walk_walkRun [(74, .iconst 0, vi 0), (75, .istore 8, vi 0)] = true := by decide +kernel
theorem f_wx_Walk_walkRun_58_1 : mblkB b_Walk_walkRun [(58, .iconst 0, vi 0)] = true := by decide +kernel
theorem e_wx_Walk_walkRun_59 : decode b_Walk_walkRun 59 = .ok (.ireturn, 1) := by decide +kernel
theorem f_wx_Walk_walkRun_6_2 : mblkB b_Walk_walkRun [(6, .iload 4, vi 0), (8, .aload_n 2, vi 0)] = true := by decide +kernel
theorem e_wx_Walk_walkRun_9 : decode b_Walk_walkRun 9 = .ok (.getfield 128, 3) := by decide +kernel
theorem f_wx_Walk_walkRun_12_3 : mblkB b_Walk_walkRun [(12, .ishr, vi 0), (13, .iconst 1, vi 1), (14, .iand, vi 0)] = true := by decide +kernel
theorem e_wx_Walk_walkRun_15 : decode b_Walk_walkRun 15 = .ok (.ifCond .ne 18, 3) := by decide +kernel
theorem f_wx_Walk_walkRun_18_1 : mblkB b_Walk_walkRun [(18, .aload_n 2, vi 0)] = true := by decide +kernel
theorem e_wx_Walk_walkRun_19 : decode b_Walk_walkRun 19 = .ok (.getfield 183, 3) := by decide +kernel
theorem e_wx_Walk_walkRun_22 : decode b_Walk_walkRun 22 = .ok (.ifCond .ne 11, 3) := by decide +kernel
theorem f_wx_Walk_walkRun_25_3 : mblkB b_Walk_walkRun [(25, .aload_n 0, vi 0), (26, .aload_n 3, vi 0), (27, .iload 4, vi 0)] = true := by decide +kernel
theorem e_wx_Walk_walkRun_29 : decode b_Walk_walkRun 29 = .ok (.invokevirtual 180, 3) := by decide +kernel
theorem e_wx_Walk_walkRun_32 : decode b_Walk_walkRun 32 = .ok (.ireturn, 1) := by decide +kernel
theorem f_wx_Walk_walkRun_77_2 : mblkB b_Walk_walkRun [(77, .iload 8, vi 0), (79, .aload_n 3, vi 0)] = true := by decide +kernel
theorem e_wx_Walk_walkRun_80 : decode b_Walk_walkRun 80 = .ok (.getfield 120, 3) := by decide +kernel
theorem e_wx_Walk_walkRun_83 : decode b_Walk_walkRun 83 = .ok (.if_icmp .ge 128, 3) := by decide +kernel
theorem f_wx_Walk_walkRun_211_1 : mblkB b_Walk_walkRun [(211, .aload_n 0, vi 0)] = true := by decide +kernel
theorem e_wx_Walk_walkRun_212 : decode b_Walk_walkRun 212 = .ok (.getfield 12, 3) := by decide +kernel
theorem f_wx_Walk_walkRun_215_1 : mblkB b_Walk_walkRun [(215, .aload_n 3, vi 0)] = true := by decide +kernel
theorem e_wx_Walk_walkRun_216 : decode b_Walk_walkRun 216 = .ok (.invokevirtual 152, 3) := by decide +kernel
theorem f_wx_Walk_walkRun_219_1 : mblkB b_Walk_walkRun [(219, .iconst 1, vi 1)] = true := by decide +kernel
theorem e_wx_Walk_walkRun_220 : decode b_Walk_walkRun 220 = .ok (.ireturn, 1) := by decide +kernel
theorem f_wx_Walk_walkRun_86_2 : mblkB b_Walk_walkRun [(86, .iload 8, vi 0), (88, .sipush 300, vi 300)] = true := by decide +kernel
theorem e_wx_Walk_walkRun_91 : decode b_Walk_walkRun 91 = .ok (.if_icmp .ge 120, 3) := by decide +kernel
theorem f_wx_Walk_walkRun_94_3 : mblkB b_Walk_walkRun [(94, .aload_n 1, vi 0), (95, .aload_n 2, vi 0), (96, .aload_n 3, vi 0)] = true := by decide +kernel
theorem e_wx_Walk_walkRun_97 : decode b_Walk_walkRun 97 = .ok (.getfield 124, 3) := by decide +kernel
theorem f_wx_Walk_walkRun_100_1 : mblkB b_Walk_walkRun [(100, .iload 8, vi 0)] = true := by decide +kernel
theorem e_wx_Walk_walkRun_102 : decode b_Walk_walkRun 102 = .ok (.iaload, 1) := by decide +kernel
theorem e_wx_Walk_walkRun_103 : decode b_Walk_walkRun 103 = .ok (.invokevirtual 156, 3) := by decide +kernel
theorem f_wx_Walk_walkRun_106_2 : mblkB b_Walk_walkRun [(106, .istore 9, vi 0), (108, .aload_n 3, vi 0)] = true := by decide +kernel
theorem e_wx_Walk_walkRun_109 : decode b_Walk_walkRun 109 = .ok (.getfield 138, 3) := by decide +kernel
theorem f_wx_Walk_walkRun_112_1 : mblkB b_Walk_walkRun [(112, .iload 8, vi 0)] = true := by decide +kernel
theorem e_wx_Walk_walkRun_114 : decode b_Walk_walkRun 114 = .ok (.laload, 1) := by decide +kernel
theorem f_wx_Walk_walkRun_115_1 : mblkB b_Walk_walkRun [(115, .aload 6, vi 0)] = true := by decide +kernel
theorem e_wx_Walk_walkRun_117 : decode b_Walk_walkRun 117 = .ok (.getfield 194, 3) := by decide +kernel
theorem f_wx_Walk_walkRun_120_4 : mblkB b_Walk_walkRun [(120, .lshr, vi 0), (121, .lstore 10, vi 0), (123, .iconst 0, vi 0), (124, .istore 12, vi 0)] = true := by decide +kernel
theorem f_wx_Walk_walkRun_126_2 : mblkB b_Walk_walkRun [(126, .iload 12, vi 0), (128, .bipush 10, vi 10)] = true := by decide +kernel
theorem e_wx_Walk_walkRun_130 : decode b_Walk_walkRun 130 = .ok (.if_icmp .ge 75, 3) := by decide +kernel
theorem f_wx_Walk_walkRun_205_2 : mblkB b_Walk_walkRun [(205, .iinc 8 1, vi 1), (208, .goto (-131), vi 77)] = true := by decide +kernel
theorem f_wx_Walk_walkRun_133_2 : mblkB b_Walk_walkRun [(133, .lload 10, vi 0), (135, .aload 6, vi 0)] = true := by decide +kernel
theorem e_wx_Walk_walkRun_137 : decode b_Walk_walkRun 137 = .ok (.getfield 195, 3) := by decide +kernel
theorem f_wx_Walk_walkRun_140_2 : mblkB b_Walk_walkRun [(140, .iload 9, vi 0), (142, .iload 12, vi 0)] = true := by decide +kernel
theorem e_wx_Walk_walkRun_144 : decode b_Walk_walkRun 144 = .ok (.invokevirtual 199, 3) := by decide +kernel
theorem f_wx_Walk_walkRun_147_2 : mblkB b_Walk_walkRun [(147, .bipush 50, vi 50), (149, .aload 6, vi 0)] = true := by decide +kernel
theorem e_wx_Walk_walkRun_151 : decode b_Walk_walkRun 151 = .ok (.getfield 194, 3) := by decide +kernel
theorem f_wx_Walk_walkRun_154_6 : mblkB b_Walk_walkRun [(154, .isub, vi 0), (155, .lshr, vi 0), (156, .lmul, vi 0), (157, .lstore 13, vi 0), (159, .lload 13, vi 0), (161, .lconst 0, vl 0)] = true := by decide +kernel
theorem e_wx_Walk_walkRun_162 : decode b_Walk_walkRun 162 = .ok (.lcmp, 1) := by decide +kernel
theorem e_wx_Walk_walkRun_163 : decode b_Walk_walkRun 163 = .ok (.ifCond .le 36, 3) := by decide +kernel
theorem f_wx_Walk_walkRun_199_2 : mblkB b_Walk_walkRun [(199, .iinc 12 1, vi 1), (202, .goto (-76), vi 126)] = true := by decide +kernel
theorem f_wx_Walk_walkRun_166_1 : mblkB b_Walk_walkRun [(166, .aload_n 0, vi 0)] = true := by decide +kernel
theorem e_wx_Walk_walkRun_167 : decode b_Walk_walkRun 167 = .ok (.getfield 12, 3) := by decide +kernel
theorem f_wx_Walk_walkRun_170_1 : mblkB b_Walk_walkRun [(170, .aload_n 3, vi 0)] = true := by decide +kernel
theorem e_wx_Walk_walkRun_171 : decode b_Walk_walkRun 171 = .ok (.getfield 124, 3) := by decide +kernel
theorem f_wx_Walk_walkRun_174_1 : mblkB b_Walk_walkRun [(174, .iload 8, vi 0)] = true := by decide +kernel
theorem e_wx_Walk_walkRun_176 : decode b_Walk_walkRun 176 = .ok (.iaload, 1) := by decide +kernel
theorem f_wx_Walk_walkRun_177_1 : mblkB b_Walk_walkRun [(177, .aload_n 2, vi 0)] = true := by decide +kernel
theorem e_wx_Walk_walkRun_178 : decode b_Walk_walkRun 178 = .ok (.getfield 128, 3) := by decide +kernel
theorem f_wx_Walk_walkRun_181_1 : mblkB b_Walk_walkRun [(181, .iload 12, vi 0)] = true := by decide +kernel
theorem e_wx_Walk_walkRun_183 : decode b_Walk_walkRun 183 = .ok (.invokestatic 135, 3) := by decide +kernel
theorem f_wx_Walk_walkRun_186_3 : mblkB b_Walk_walkRun [(186, .iload 7, vi 0), (188, .iand, vi 0), (189, .lload 13, vi 0)] = true := by decide +kernel
theorem e_wx_Walk_walkRun_191 : decode b_Walk_walkRun 191 = .ok (.invokevirtual 148, 3) := by decide +kernel
theorem e_wx_Walk_walkRun_194 : decode b_Walk_walkRun 194 = .ok (.ifCond .ne 5, 3) := by decide +kernel
theorem f_wx_Walk_walkRun_197_1 : mblkB b_Walk_walkRun [(197, .iconst 0, vi 0)] = true := by decide +kernel
theorem e_wx_Walk_walkRun_198 : decode b_Walk_walkRun 198 = .ok (.ireturn, 1) := by decide +kernel
set_option maxHeartbeats 4000000 in
set_option maxRecDepth 20000 in
theorem wx_Walk_walkRun {wst : Nat → tG → mA → Nat → Nat → Int → Nat → Int → Int → wQ → Prop} {fr lo : Nat} (hwst : ∀ (l : Launch) (D : va_G) (B : Nat) (H0 : Heap) (G0 : tG) (k0 : Nat) (A : mA) (o : Nat) (a0 : Nat) (a1 : Int) (a2 : Nat) (a3 : Int) (a4 : Int) (h_o : G0 o = some 7) (h_a0 : G0 a0 = some 2) (h_a2 : G0 a2 = some 0)  (Q : wQ), wst k0 G0 A o a0 a1 a2 a3 a4 Q → wMet l D B H0 G0 k0 y_Walk_walkStep b_Walk_walkStep 7 (some .boolean) (fr + 60) (lo + 3000) 1 [vr 7 o, vr 2 a0, vi a1, vr 0 a2, vi a3, vi a4] A Q) : ∀ (l : Launch) (D : va_G) (B : Nat) (H0 : Heap) (G0 : tG) (k0 : Nat) (A : mA) (o : Nat) (a0 : Nat) (a1 : Nat) (a2 : Nat) (a3 : Int) (a4 : Int) (h_o : G0 o = some 7) (h_a0 : G0 a0 = some 2) (h_a1 : G0 a1 = some 6) (h_a2 : G0 a2 = some 0)  (Q : wQ), w_Walk_walkRun wst k0 G0 A o a0 a1 a2 a3 a4 Q → wMet l D B H0 G0 k0 y_Walk_walkRun b_Walk_walkRun 15 (some .boolean) (fr + 68) (lo + 3240) 1 [vr 7 o, vr 2 a0, vr 6 a1, vr 0 a2, vi a3, vi a4] A Q := by
  intro l D B H0 G0 k0 A o a0 a1 a2 a3 a4 h_o h_a0 h_a1 h_a2 Q h
  refine w_met (by decide) rfl (fun g q0 C Rm Y E => ?_)
  have hd_126 : ∀ (c_77 : Nat → tG → mA → Nat → Nat → Nat → Nat → Nat → Int → Int → wQ → Prop) (hc_77 : ∀ (k : Nat) (G : tG) (q : Nat × Nat) (hgo : ∀ a τ, G0 a = some τ → G a = some τ) (hb : wb q0 k0 q k) (A : mA) (b0 : Nat) (b1 : Nat) (b2 : Nat) (b3 : Nat) (b6 : Nat) (b7 : Int) (b8 : Int) , G b0 = some 7 → G b1 = some 2 → G b2 = some 6 → G b3 = some 0 → G b6 = some 2 → c_77 k G A b0 b1 b2 b3 b6 b7 b8 Q → HM g D G q A 77 [(0, vr 7 b0), (1, vr 2 b1), (2, vr 6 b2), (3, vr 0 b3), (6, vr 2 b6), (7, vi b7), (8, vi b8)] []) (n : Nat) (k : Nat) (G : tG) (q : Nat × Nat) (hgo : ∀ a τ, G0 a = some τ → G a = some τ) (hb : wb q0 k0 q k) (A : mA) (b0 : Nat) (b1 : Nat) (b2 : Nat) (b3 : Nat) (b6 : Nat) (b7 : Int) (b8 : Int) (b9 : Int) (b10 : Int) (b12 : Int) , G b0 = some 7 → G b1 = some 2 → G b2 = some 6 → G b3 = some 0 → G b6 = some 2 → w_Walk_walkRun_126 wst c_77 n k G A b0 b1 b2 b3 b6 b7 b8 b9 b10 b12 Q → HM g D G q A 126 [(0, vr 7 b0), (1, vr 2 b1), (2, vr 6 b2), (3, vr 0 b3), (6, vr 2 b6), (7, vi b7), (8, vi b8), (9, vi b9), (10, vl b10), (12, vi b12)] [] := by
    intro c_77 hc_77 n
    induction n with
    | zero => intro k G q hgo hb A b0 b1 b2 b3 b6 b7 b8 b9 b10 b12 h_b0 h_b1 h_b2 h_b3 h_b6 h; exact h.elim
    | succ n ih =>
      intro k G q hgo hb A b0 b1 b2 b3 b6 b7 b8 b9 b10 b12 h_b0 h_b1 h_b2 h_b3 h_b6 h
      unfold w_Walk_walkRun_126 at h
      refine h_blk 130 [(0, vr 7 b0), (1, vr 2 b1), (2, vr 6 b2), (3, vr 0 b3), (6, vr 2 b6), (7, vi b7), (8, vi b8), (9, vi b9), (10, vl b10), (12, vi b12)] [vi 10, vi b12] C f_wx_Walk_walkRun_126_2 rfl ?_
      obtain ⟨c1, h⟩ := wgd h
      refine h_icmp_ge (tgt := 205) C e_wx_Walk_walkRun_130 (by decide) c1 (by decide) (fun c2 => ?_) (fun c2 => ?_)
      · have h := wfp c2 h
        refine h_blk 77 [(8, vi (b8 + 1)), (0, vr 7 b0), (1, vr 2 b1), (2, vr 6 b2), (3, vr 0 b3), (6, vr 2 b6), (7, vi b7), (9, vi b9), (10, vl b10), (12, vi b12)] [] C f_wx_Walk_walkRun_205_2 rfl ?_
        refine h_loc [(0, vr 7 b0), (1, vr 2 b1), (2, vr 6 b2), (3, vr 0 b3), (6, vr 2 b6), (7, vi b7), (8, vi (b8 + 1))] ⟨rfl, rfl, rfl, rfl, rfl, rfl, rfl, trivial⟩ ?_
        exact hc_77 k G q hgo hb A b0 b1 b2 b3 b6 b7 (b8 + 1) (h_b0) (h_b1) (h_b2) (h_b3) (h_b6) h
      · have h := wfn c2 h
        refine h_blk 137 [(0, vr 7 b0), (1, vr 2 b1), (2, vr 6 b2), (3, vr 0 b3), (6, vr 2 b6), (7, vi b7), (8, vi b8), (9, vi b9), (10, vl b10), (12, vi b12)] [vr 2 b6, vl b10] C f_wx_Walk_walkRun_133_2 rfl ?_
        refine h_getr4 C e_wx_Walk_walkRun_137 fg_Walk_195 h_b6 rfl rfl rfl rfl (fun g3 => ?_)
        refine h_blk 144 [(0, vr 7 b0), (1, vr 2 b1), (2, vr 6 b2), (3, vr 0 b3), (6, vr 2 b6), (7, vi b7), (8, vi b8), (9, vi b9), (10, vl b10), (12, vi b12)] [vi b12, vi b9, vr 4 ((A 2 b6 12).toNat), vl b10] C f_wx_Walk_walkRun_140_2 rfl ?_
        obtain ⟨q4, e5, h⟩ := h
        refine w_callV C Rm Y hb [vi b9, vi b12] [vl b10] (hx_Runs_weight l D B H0 G _ ((A 2 b6 12).toNat) b9 b12 g3 _ _ e5) cl_Walk_199 g3 rfl rfl rfl e_wx_Walk_walkRun_144 rfl rfl rfl ⟨by show _ ≤ ((fr + 68) : Nat); omega, by show _ ≤ ((lo + 3240) : Nat); omega⟩ ?_
        rintro _ _ ⟨rfl, rfl⟩
        show HM g D G q q4.2 147 [(0, vr 7 b0), (1, vr 2 b1), (2, vr 6 b2), (3, vr 0 b3), (6, vr 2 b6), (7, vi b7), (8, vi b8), (9, vi b9), (10, vl b10), (12, vi b12)] [vl q4.1, vl b10]
        refine h_blk 151 [(0, vr 7 b0), (1, vr 2 b1), (2, vr 6 b2), (3, vr 0 b3), (6, vr 2 b6), (7, vi b7), (8, vi b8), (9, vi b9), (10, vl b10), (12, vi b12)] [vr 2 b6, vi 50, vl q4.1, vl b10] C f_wx_Walk_walkRun_147_2 rfl ?_
        refine h_geti C e_wx_Walk_walkRun_151 fg_Walk_194 h_b6 rfl rfl rfl (q4.2 2 b6 8) rfl ?_
        refine h_blk 162 [(13, vl (b10 * (lShr q4.1 (50 - (q4.2 2 b6 8))))), (0, vr 7 b0), (1, vr 2 b1), (2, vr 6 b2), (3, vr 0 b3), (6, vr 2 b6), (7, vi b7), (8, vi b8), (9, vi b9), (10, vl b10), (12, vi b12)] [vl 0, vl (b10 * (lShr q4.1 (50 - (q4.2 2 b6 8))))] C f_wx_Walk_walkRun_154_6 rfl ?_
        obtain ⟨c6, h⟩ := wgd h
        refine h_lcmp C e_wx_Walk_walkRun_162 c6 (by decide) (fun z7 hz7 => ?_)
        obtain rfl : z7 = lc (b10 * (lShr q4.1 (50 - (q4.2 2 b6 8)))) 0 := lc_of hz7
        refine h_if_le (tgt := 199) C e_wx_Walk_walkRun_163 (by decide) lc_r (fun c8 => ?_) (fun c8 => ?_)
        · have h := wfp c8 h
          refine h_blk 126 [(12, vi (b12 + 1)), (13, vl (b10 * (lShr q4.1 (50 - (q4.2 2 b6 8))))), (0, vr 7 b0), (1, vr 2 b1), (2, vr 6 b2), (3, vr 0 b3), (6, vr 2 b6), (7, vi b7), (8, vi b8), (9, vi b9), (10, vl b10)] [] C f_wx_Walk_walkRun_199_2 rfl ?_
          refine h_loc [(0, vr 7 b0), (1, vr 2 b1), (2, vr 6 b2), (3, vr 0 b3), (6, vr 2 b6), (7, vi b7), (8, vi b8), (9, vi b9), (10, vl b10), (12, vi (b12 + 1))] ⟨rfl, rfl, rfl, rfl, rfl, rfl, rfl, rfl, rfl, rfl, trivial⟩ ?_
          exact ih k G q hgo hb q4.2 b0 b1 b2 b3 b6 b7 b8 b9 b10 (b12 + 1) (h_b0) (h_b1) (h_b2) (h_b3) (h_b6) h
        · have h := wfn c8 h
          refine h_blk 167 [(13, vl (b10 * (lShr q4.1 (50 - (q4.2 2 b6 8))))), (0, vr 7 b0), (1, vr 2 b1), (2, vr 6 b2), (3, vr 0 b3), (6, vr 2 b6), (7, vi b7), (8, vi b8), (9, vi b9), (10, vl b10), (12, vi b12)] [vr 7 b0] C f_wx_Walk_walkRun_166_1 rfl ?_
          refine h_getr4 C e_wx_Walk_walkRun_167 fg_Walk_12 h_b0 rfl rfl rfl rfl (fun g9 => ?_)
          refine h_blk 171 [(13, vl (b10 * (lShr q4.1 (50 - (q4.2 2 b6 8))))), (0, vr 7 b0), (1, vr 2 b1), (2, vr 6 b2), (3, vr 0 b3), (6, vr 2 b6), (7, vi b7), (8, vi b8), (9, vi b9), (10, vl b10), (12, vi b12)] [vr 0 b3, vr 1 ((q4.2 7 b0 0).toNat)] C f_wx_Walk_walkRun_170_1 rfl ?_
          refine h_getr4 C e_wx_Walk_walkRun_171 fg_Walk_124 h_b3 rfl rfl rfl rfl (fun g10 => ?_)
          refine h_blk 176 [(13, vl (b10 * (lShr q4.1 (50 - (q4.2 2 b6 8))))), (0, vr 7 b0), (1, vr 2 b1), (2, vr 6 b2), (3, vr 0 b3), (6, vr 2 b6), (7, vi b7), (8, vi b8), (9, vi b9), (10, vl b10), (12, vi b12)] [vi b8, vr 31 ((q4.2 0 b3 0).toNat), vr 1 ((q4.2 7 b0 0).toNat)] C f_wx_Walk_walkRun_174_1 rfl ?_
          obtain ⟨c11, h⟩ := wgd h
          refine h_iald C e_wx_Walk_walkRun_176 g10 rfl rfl (by decide) c11.1 c11.2 (q4.2 31 ((q4.2 0 b3 0).toNat) b8.toNat) rfl ?_
          refine h_blk 178 [(13, vl (b10 * (lShr q4.1 (50 - (q4.2 2 b6 8))))), (0, vr 7 b0), (1, vr 2 b1), (2, vr 6 b2), (3, vr 0 b3), (6, vr 2 b6), (7, vi b7), (8, vi b8), (9, vi b9), (10, vl b10), (12, vi b12)] [vr 6 b2, vi (q4.2 31 ((q4.2 0 b3 0).toNat) b8.toNat), vr 1 ((q4.2 7 b0 0).toNat)] C f_wx_Walk_walkRun_177_1 rfl ?_
          refine h_geti C e_wx_Walk_walkRun_178 fg_Walk_128 h_b2 rfl rfl rfl (q4.2 6 b2 1) rfl ?_
          refine h_blk 183 [(13, vl (b10 * (lShr q4.1 (50 - (q4.2 2 b6 8))))), (0, vr 7 b0), (1, vr 2 b1), (2, vr 6 b2), (3, vr 0 b3), (6, vr 2 b6), (7, vi b7), (8, vi b8), (9, vi b9), (10, vl b10), (12, vi b12)] [vi b12, vi (q4.2 6 b2 1), vi (q4.2 31 ((q4.2 0 b3 0).toNat) b8.toNat), vr 1 ((q4.2 7 b0 0).toNat)] C f_wx_Walk_walkRun_181_1 rfl ?_
          obtain ⟨q12, e13, h⟩ := h
          refine w_callSn C Rm Y hb [vi (q4.2 31 ((q4.2 0 b3 0).toNat) b8.toNat), vi (q4.2 6 b2 1), vi b12] [vr 1 ((q4.2 7 b0 0).toNat)] (hx_CS_withDigit l D B H0 G _ (q4.2 31 ((q4.2 0 b3 0).toNat) b8.toNat) (q4.2 6 b2 1) b12 _ _ e13) cl_Walk_135 e_wx_Walk_walkRun_183 rfl rfl rfl ⟨by show _ ≤ ((fr + 68) : Nat); omega, by show _ ≤ ((lo + 3240) : Nat); omega⟩ ?_
          rintro _ _ ⟨rfl, rfl⟩
          show HM g D G q q12.2 186 [(13, vl (b10 * (lShr q4.1 (50 - (q4.2 2 b6 8))))), (0, vr 7 b0), (1, vr 2 b1), (2, vr 6 b2), (3, vr 0 b3), (6, vr 2 b6), (7, vi b7), (8, vi b8), (9, vi b9), (10, vl b10), (12, vi b12)] [vi q12.1, vr 1 ((q4.2 7 b0 0).toNat)]
          refine h_blk 191 [(13, vl (b10 * (lShr q4.1 (50 - (q4.2 2 b6 8))))), (0, vr 7 b0), (1, vr 2 b1), (2, vr 6 b2), (3, vr 0 b3), (6, vr 2 b6), (7, vi b7), (8, vi b8), (9, vi b9), (10, vl b10), (12, vi b12)] [vl (b10 * (lShr q4.1 (50 - (q4.2 2 b6 8)))), vi (iAnd q12.1 b7), vr 1 ((q4.2 7 b0 0).toNat)] C f_wx_Walk_walkRun_186_3 rfl ?_
          obtain ⟨q14, e15, h⟩ := h
          refine w_callV C Rm Y hb [vi (iAnd q12.1 b7), vl (b10 * (lShr q4.1 (50 - (q4.2 2 b6 8))))] [] (hx_Mixer_put l D B H0 G _ ((q4.2 7 b0 0).toNat) (iAnd q12.1 b7) (b10 * (lShr q4.1 (50 - (q4.2 2 b6 8)))) g9 _ _ e15) cl_Walk_148 g9 rfl rfl rfl e_wx_Walk_walkRun_191 rfl rfl rfl ⟨by show _ ≤ ((fr + 68) : Nat); omega, by show _ ≤ ((lo + 3240) : Nat); omega⟩ ?_
          rintro _ _ ⟨rfl, rfl⟩
          show HM g D G q q14.2 194 [(13, vl (b10 * (lShr q4.1 (50 - (q4.2 2 b6 8))))), (0, vr 7 b0), (1, vr 2 b1), (2, vr 6 b2), (3, vr 0 b3), (6, vr 2 b6), (7, vi b7), (8, vi b8), (9, vi b9), (10, vl b10), (12, vi b12)] [vi q14.1]
          obtain ⟨c16, h⟩ := wgd h
          refine h_if_ne (tgt := 199) C e_wx_Walk_walkRun_194 (by decide) c16 (fun c17 => ?_) (fun c17 => ?_)
          · have h := wfn c17 h
            refine h_blk 126 [(12, vi (b12 + 1)), (13, vl (b10 * (lShr q4.1 (50 - (q4.2 2 b6 8))))), (0, vr 7 b0), (1, vr 2 b1), (2, vr 6 b2), (3, vr 0 b3), (6, vr 2 b6), (7, vi b7), (8, vi b8), (9, vi b9), (10, vl b10)] [] C f_wx_Walk_walkRun_199_2 rfl ?_
            refine h_loc [(0, vr 7 b0), (1, vr 2 b1), (2, vr 6 b2), (3, vr 0 b3), (6, vr 2 b6), (7, vi b7), (8, vi b8), (9, vi b9), (10, vl b10), (12, vi (b12 + 1))] ⟨rfl, rfl, rfl, rfl, rfl, rfl, rfl, rfl, rfl, rfl, trivial⟩ ?_
            exact ih k G q hgo hb q14.2 b0 b1 b2 b3 b6 b7 b8 b9 b10 (b12 + 1) (h_b0) (h_b1) (h_b2) (h_b3) (h_b6) h
          · have h := wfp c17 h
            refine h_blk 198 [(13, vl (b10 * (lShr q4.1 (50 - (q4.2 2 b6 8))))), (0, vr 7 b0), (1, vr 2 b1), (2, vr 6 b2), (3, vr 0 b3), (6, vr 2 b6), (7, vi b7), (8, vi b8), (9, vi b9), (10, vl b10), (12, vi b12)] [vi 0] C f_wx_Walk_walkRun_197_1 rfl ?_
            exact w_zret C Rm E hgo hb (Or.inl rfl) e_wx_Walk_walkRun_198 h
  have hd_77 : ∀ (n : Nat) (k : Nat) (G : tG) (q : Nat × Nat) (hgo : ∀ a τ, G0 a = some τ → G a = some τ) (hb : wb q0 k0 q k) (A : mA) (b0 : Nat) (b1 : Nat) (b2 : Nat) (b3 : Nat) (b6 : Nat) (b7 : Int) (b8 : Int) , G b0 = some 7 → G b1 = some 2 → G b2 = some 6 → G b3 = some 0 → G b6 = some 2 → w_Walk_walkRun_77 wst  n k G A b0 b1 b2 b3 b6 b7 b8 Q → HM g D G q A 77 [(0, vr 7 b0), (1, vr 2 b1), (2, vr 6 b2), (3, vr 0 b3), (6, vr 2 b6), (7, vi b7), (8, vi b8)] [] := by
    intro  n
    induction n with
    | zero => intro k G q hgo hb A b0 b1 b2 b3 b6 b7 b8 h_b0 h_b1 h_b2 h_b3 h_b6 h; exact h.elim
    | succ n ih =>
      intro k G q hgo hb A b0 b1 b2 b3 b6 b7 b8 h_b0 h_b1 h_b2 h_b3 h_b6 h
      unfold w_Walk_walkRun_77 at h
      refine h_blk 80 [(0, vr 7 b0), (1, vr 2 b1), (2, vr 6 b2), (3, vr 0 b3), (6, vr 2 b6), (7, vi b7), (8, vi b8)] [vr 0 b3, vi b8] C f_wx_Walk_walkRun_77_2 rfl ?_
      refine h_geti C e_wx_Walk_walkRun_80 fg_Walk_120 h_b3 rfl rfl rfl (A 0 b3 2) rfl ?_
      obtain ⟨c18, h⟩ := wgd h
      obtain ⟨c19, h⟩ := wgd h
      refine h_icmp_ge (tgt := 211) C e_wx_Walk_walkRun_83 (by decide) c18 c19 (fun c20 => ?_) (fun c20 => ?_)
      · have h := wfp c20 h
        refine h_blk 212 [(0, vr 7 b0), (1, vr 2 b1), (2, vr 6 b2), (3, vr 0 b3), (6, vr 2 b6), (7, vi b7), (8, vi b8)] [vr 7 b0] C f_wx_Walk_walkRun_211_1 rfl ?_
        refine h_getr4 C e_wx_Walk_walkRun_212 fg_Walk_12 h_b0 rfl rfl rfl rfl (fun g21 => ?_)
        refine h_blk 216 [(0, vr 7 b0), (1, vr 2 b1), (2, vr 6 b2), (3, vr 0 b3), (6, vr 2 b6), (7, vi b7), (8, vi b8)] [vr 0 b3, vr 1 ((A 7 b0 0).toNat)] C f_wx_Walk_walkRun_215_1 rfl ?_
        obtain ⟨q22, e23, h⟩ := h
        refine w_callV C Rm Y hb [vr 0 b3] [] (hx_Mixer_pourInto l D B H0 G _ ((A 7 b0 0).toNat) b3 g21 h_b3 _ _ e23) cl_Walk_152 g21 rfl rfl rfl e_wx_Walk_walkRun_216 rfl rfl rfl ⟨by show _ ≤ ((fr + 68) : Nat); omega, by show _ ≤ ((lo + 3240) : Nat); omega⟩ ?_
        rintro _ _ ⟨rfl, rfl⟩
        show HM g D G q q22.2 219 [(0, vr 7 b0), (1, vr 2 b1), (2, vr 6 b2), (3, vr 0 b3), (6, vr 2 b6), (7, vi b7), (8, vi b8)] []
        refine h_blk 220 [(0, vr 7 b0), (1, vr 2 b1), (2, vr 6 b2), (3, vr 0 b3), (6, vr 2 b6), (7, vi b7), (8, vi b8)] [vi 1] C f_wx_Walk_walkRun_219_1 rfl ?_
        exact w_zret C Rm E hgo hb (Or.inr rfl) e_wx_Walk_walkRun_220 h
      · have h := wfn c20 h
        refine h_blk 91 [(0, vr 7 b0), (1, vr 2 b1), (2, vr 6 b2), (3, vr 0 b3), (6, vr 2 b6), (7, vi b7), (8, vi b8)] [vi 300, vi b8] C f_wx_Walk_walkRun_86_2 rfl ?_
        refine h_icmp_ge (tgt := 211) C e_wx_Walk_walkRun_91 (by decide) c18 (by decide) (fun c24 => ?_) (fun c24 => ?_)
        · have h := wfp c24 h
          refine h_blk 212 [(0, vr 7 b0), (1, vr 2 b1), (2, vr 6 b2), (3, vr 0 b3), (6, vr 2 b6), (7, vi b7), (8, vi b8)] [vr 7 b0] C f_wx_Walk_walkRun_211_1 rfl ?_
          refine h_getr4 C e_wx_Walk_walkRun_212 fg_Walk_12 h_b0 rfl rfl rfl rfl (fun g25 => ?_)
          refine h_blk 216 [(0, vr 7 b0), (1, vr 2 b1), (2, vr 6 b2), (3, vr 0 b3), (6, vr 2 b6), (7, vi b7), (8, vi b8)] [vr 0 b3, vr 1 ((A 7 b0 0).toNat)] C f_wx_Walk_walkRun_215_1 rfl ?_
          obtain ⟨q26, e27, h⟩ := h
          refine w_callV C Rm Y hb [vr 0 b3] [] (hx_Mixer_pourInto l D B H0 G _ ((A 7 b0 0).toNat) b3 g25 h_b3 _ _ e27) cl_Walk_152 g25 rfl rfl rfl e_wx_Walk_walkRun_216 rfl rfl rfl ⟨by show _ ≤ ((fr + 68) : Nat); omega, by show _ ≤ ((lo + 3240) : Nat); omega⟩ ?_
          rintro _ _ ⟨rfl, rfl⟩
          show HM g D G q q26.2 219 [(0, vr 7 b0), (1, vr 2 b1), (2, vr 6 b2), (3, vr 0 b3), (6, vr 2 b6), (7, vi b7), (8, vi b8)] []
          refine h_blk 220 [(0, vr 7 b0), (1, vr 2 b1), (2, vr 6 b2), (3, vr 0 b3), (6, vr 2 b6), (7, vi b7), (8, vi b8)] [vi 1] C f_wx_Walk_walkRun_219_1 rfl ?_
          exact w_zret C Rm E hgo hb (Or.inr rfl) e_wx_Walk_walkRun_220 h
        · have h := wfn c24 h
          refine h_blk 97 [(0, vr 7 b0), (1, vr 2 b1), (2, vr 6 b2), (3, vr 0 b3), (6, vr 2 b6), (7, vi b7), (8, vi b8)] [vr 0 b3, vr 6 b2, vr 2 b1] C f_wx_Walk_walkRun_94_3 rfl ?_
          refine h_getr4 C e_wx_Walk_walkRun_97 fg_Walk_124 h_b3 rfl rfl rfl rfl (fun g28 => ?_)
          refine h_blk 102 [(0, vr 7 b0), (1, vr 2 b1), (2, vr 6 b2), (3, vr 0 b3), (6, vr 2 b6), (7, vi b7), (8, vi b8)] [vi b8, vr 31 ((A 0 b3 0).toNat), vr 6 b2, vr 2 b1] C f_wx_Walk_walkRun_100_1 rfl ?_
          obtain ⟨c29, h⟩ := wgd h
          refine h_iald C e_wx_Walk_walkRun_102 g28 rfl rfl (by decide) c29.1 c29.2 (A 31 ((A 0 b3 0).toNat) b8.toNat) rfl ?_
          obtain ⟨q30, e31, h⟩ := h
          refine w_callV C Rm Y hb [vr 6 b2, vi (A 31 ((A 0 b3 0).toNat) b8.toNat)] [] (hx_Prog_digitOf l D B H0 G _ b1 b2 (A 31 ((A 0 b3 0).toNat) b8.toNat) h_b1 h_b2 _ _ e31) cl_Walk_156 h_b1 rfl rfl rfl e_wx_Walk_walkRun_103 rfl rfl rfl ⟨by show _ ≤ ((fr + 68) : Nat); omega, by show _ ≤ ((lo + 3240) : Nat); omega⟩ ?_
          rintro _ _ ⟨rfl, rfl⟩
          show HM g D G q q30.2 106 [(0, vr 7 b0), (1, vr 2 b1), (2, vr 6 b2), (3, vr 0 b3), (6, vr 2 b6), (7, vi b7), (8, vi b8)] [vi q30.1]
          refine h_blk 109 [(9, vi q30.1), (0, vr 7 b0), (1, vr 2 b1), (2, vr 6 b2), (3, vr 0 b3), (6, vr 2 b6), (7, vi b7), (8, vi b8)] [vr 0 b3] C f_wx_Walk_walkRun_106_2 rfl ?_
          refine h_getr4 C e_wx_Walk_walkRun_109 fg_Walk_138 h_b3 rfl rfl rfl rfl (fun g32 => ?_)
          refine h_blk 114 [(9, vi q30.1), (0, vr 7 b0), (1, vr 2 b1), (2, vr 6 b2), (3, vr 0 b3), (6, vr 2 b6), (7, vi b7), (8, vi b8)] [vi b8, vr 32 ((q30.2 0 b3 1).toNat)] C f_wx_Walk_walkRun_112_1 rfl ?_
          refine h_lald C e_wx_Walk_walkRun_114 g32 rfl rfl (by decide) c29.1 c29.2 (q30.2 32 ((q30.2 0 b3 1).toNat) b8.toNat) rfl ?_
          refine h_blk 117 [(9, vi q30.1), (0, vr 7 b0), (1, vr 2 b1), (2, vr 6 b2), (3, vr 0 b3), (6, vr 2 b6), (7, vi b7), (8, vi b8)] [vr 2 b6, vl (q30.2 32 ((q30.2 0 b3 1).toNat) b8.toNat)] C f_wx_Walk_walkRun_115_1 rfl ?_
          refine h_geti C e_wx_Walk_walkRun_117 fg_Walk_194 h_b6 rfl rfl rfl (q30.2 2 b6 8) rfl ?_
          refine h_blk 126 [(12, vi 0), (10, vl (lShr (q30.2 32 ((q30.2 0 b3 1).toNat) b8.toNat) (q30.2 2 b6 8))), (9, vi q30.1), (0, vr 7 b0), (1, vr 2 b1), (2, vr 6 b2), (3, vr 0 b3), (6, vr 2 b6), (7, vi b7), (8, vi b8)] [] C f_wx_Walk_walkRun_120_4 rfl ?_
          refine h_loc [(0, vr 7 b0), (1, vr 2 b1), (2, vr 6 b2), (3, vr 0 b3), (6, vr 2 b6), (7, vi b7), (8, vi b8), (9, vi q30.1), (10, vl (lShr (q30.2 32 ((q30.2 0 b3 1).toNat) b8.toNat) (q30.2 2 b6 8))), (12, vi 0)] ⟨rfl, rfl, rfl, rfl, rfl, rfl, rfl, rfl, rfl, rfl, trivial⟩ ?_
          exact hd_126 (w_Walk_walkRun_77 wst  n) ih _ k G q hgo hb q30.2 b0 b1 b2 b3 b6 b7 b8 q30.1 (lShr (q30.2 32 ((q30.2 0 b3 1).toNat) b8.toNat) (q30.2 2 b6 8)) 0 (h_b0) (h_b1) (h_b2) (h_b3) (h_b6) h
  show HM g D G0 q0 A 0 [(0, vr 7 o), (1, vr 2 a0), (2, vr 6 a1), (3, vr 0 a2), (4, vi a3), (5, vi a4)] []
  unfold w_Walk_walkRun at h
  refine h_blk 3 [(0, vr 7 o), (1, vr 2 a0), (2, vr 6 a1), (3, vr 0 a2), (4, vi a3), (5, vi a4)] [vi (-1), vi a3] C f_wx_Walk_walkRun_0_2 rfl ?_
  obtain ⟨c33, h⟩ := wgd h
  refine h_icmp_eq (tgt := 33) C e_wx_Walk_walkRun_3 (by decide) c33 (by decide) (fun c34 => ?_) (fun c34 => ?_)
  · have h := wfp c34 h
    refine h_blk 34 [(0, vr 7 o), (1, vr 2 a0), (2, vr 6 a1), (3, vr 0 a2), (4, vi a3), (5, vi a4)] [vr 6 a1] C f_wx_Walk_walkRun_33_1 rfl ?_
    obtain ⟨c35, h⟩ := wgd h
    refine h_getr5 C e_wx_Walk_walkRun_34 fg_Walk_186 h_a1 rfl rfl rfl rfl c35 (fun g36 => ?_)
    refine h_blk 41 [(6, vr 2 ((A 6 a1 13).toNat)), (0, vr 7 o), (1, vr 2 a0), (2, vr 6 a1), (3, vr 0 a2), (4, vi a3), (5, vi a4)] [vr 2 ((A 6 a1 13).toNat)] C f_wx_Walk_walkRun_37_2 rfl ?_
    refine h_ifnull C e_wx_Walk_walkRun_41 ?_
    refine h_blk 52 [(6, vr 2 ((A 6 a1 13).toNat)), (0, vr 7 o), (1, vr 2 a0), (2, vr 6 a1), (3, vr 0 a2), (4, vi a3), (5, vi a4)] [vi a4, vr 2 ((A 6 a1 13).toNat), vr 0 a2, vr 6 a1, vr 2 a0, vr 7 o] C f_wx_Walk_walkRun_44_6 rfl ?_
    refine w_wV C Rm Y wb.rfl' [vr 2 a0, vr 6 a1, vr 0 a2, vr 2 ((A 6 a1 13).toNat), vi a4] [] (wx_Walk_canRun hwst l D B H0 G0 k0 _ o a0 a1 a2 ((A 6 a1 13).toNat) a4 h_o h_a0 h_a1 h_a2 g36 _ h) cl_Walk_190 h_o rfl rfl rfl e_wx_Walk_walkRun_52 rfl rfl rfl ⟨by show _ ≤ ((fr + 68) : Nat); omega, by show _ ≤ ((lo + 3240) : Nat); omega⟩ (fun r37 A38 G39 k40 q41 p42 y43 b44 => ?_)
    have h := p42
    refine wk1 ?_
    obtain ⟨c45, h⟩ := wgd h
    refine h_if_ne (tgt := 60) C e_wx_Walk_walkRun_55 (by decide) c45 (fun c46 => ?_) (fun c46 => ?_)
    · have h := wfn c46 h
      refine h_blk 62 [(6, vr 2 ((A 6 a1 13).toNat)), (0, vr 7 o), (1, vr 2 a0), (2, vr 6 a1), (3, vr 0 a2), (4, vi a3), (5, vi a4)] [vi a3] C f_wx_Walk_walkRun_60_1 rfl ?_
      obtain ⟨q47, e48, h⟩ := h
      refine w_callSn C Rm Y b44 [vi a3] [] (hx_CS_maskOf l D B H0 G39 _ a3 _ _ e48) cl_Walk_65 e_wx_Walk_walkRun_62 rfl rfl rfl ⟨by show _ ≤ ((fr + 68) : Nat); omega, by show _ ≤ ((lo + 3240) : Nat); omega⟩ ?_
      rintro _ _ ⟨rfl, rfl⟩
      show HM g D G39 q41 q47.2 65 [(6, vr 2 ((A 6 a1 13).toNat)), (0, vr 7 o), (1, vr 2 a0), (2, vr 6 a1), (3, vr 0 a2), (4, vi a3), (5, vi a4)] [vi q47.1]
      refine h_blk 68 [(7, vi q47.1), (6, vr 2 ((A 6 a1 13).toNat)), (0, vr 7 o), (1, vr 2 a0), (2, vr 6 a1), (3, vr 0 a2), (4, vi a3), (5, vi a4)] [vr 7 o] C f_wx_Walk_walkRun_65_2 rfl ?_
      refine h_getr4 C e_wx_Walk_walkRun_68 fg_Walk_12 (y43 _ _ h_o) rfl rfl rfl rfl (fun g49 => ?_)
      obtain ⟨q50, e51, h⟩ := h
      refine w_callV C Rm Y b44 [] [] (hx_Mixer_clear l D B H0 G39 _ ((q47.2 7 o 0).toNat) g49 _ _ e51) cl_Walk_117 g49 rfl rfl rfl e_wx_Walk_walkRun_71 rfl rfl rfl ⟨by show _ ≤ ((fr + 68) : Nat); omega, by show _ ≤ ((lo + 3240) : Nat); omega⟩ ?_
      rintro _ _ ⟨rfl, rfl⟩
      show HM g D G39 q41 q50.2 74 [(7, vi q47.1), (6, vr 2 ((A 6 a1 13).toNat)), (0, vr 7 o), (1, vr 2 a0), (2, vr 6 a1), (3, vr 0 a2), (4, vi a3), (5, vi a4)] []
      refine h_blk 77 [(8, vi 0), (7, vi q47.1), (6, vr 2 ((A 6 a1 13).toNat)), (0, vr 7 o), (1, vr 2 a0), (2, vr 6 a1), (3, vr 0 a2), (4, vi a3), (5, vi a4)] [] C f_wx_Walk_walkRun_74_2 rfl ?_
      refine h_loc [(0, vr 7 o), (1, vr 2 a0), (2, vr 6 a1), (3, vr 0 a2), (6, vr 2 ((A 6 a1 13).toNat)), (7, vi q47.1), (8, vi 0)] ⟨rfl, rfl, rfl, rfl, rfl, rfl, rfl, trivial⟩ ?_
      exact hd_77 _ k40 G39 q41 (fun a τ z => y43 a τ ((fun _ _ z => z) a τ z)) b44 q50.2 o a0 a1 a2 ((A 6 a1 13).toNat) q47.1 0 ((y43 _ _ h_o)) ((y43 _ _ h_a0)) ((y43 _ _ h_a1)) ((y43 _ _ h_a2)) ((y43 _ _ g36)) h
    · have h := wfp c46 h
      refine h_blk 59 [(6, vr 2 ((A 6 a1 13).toNat)), (0, vr 7 o), (1, vr 2 a0), (2, vr 6 a1), (3, vr 0 a2), (4, vi a3), (5, vi a4)] [vi 0] C f_wx_Walk_walkRun_58_1 rfl ?_
      exact w_zret C Rm E (fun a τ z => y43 a τ ((fun _ _ z => z) a τ z)) b44 (Or.inl rfl) e_wx_Walk_walkRun_59 h
  · have h := wfn c34 h
    refine h_blk 9 [(0, vr 7 o), (1, vr 2 a0), (2, vr 6 a1), (3, vr 0 a2), (4, vi a3), (5, vi a4)] [vr 6 a1, vi a3] C f_wx_Walk_walkRun_6_2 rfl ?_
    refine h_geti C e_wx_Walk_walkRun_9 fg_Walk_128 h_a1 rfl rfl rfl (A 6 a1 1) rfl ?_
    refine h_blk 15 [(0, vr 7 o), (1, vr 2 a0), (2, vr 6 a1), (3, vr 0 a2), (4, vi a3), (5, vi a4)] [vi (iAnd (iShr a3 (A 6 a1 1)) 1)] C f_wx_Walk_walkRun_12_3 rfl ?_
    refine h_if_ne (tgt := 33) C e_wx_Walk_walkRun_15 (by decide) (iAnd_r _ _) (fun c52 => ?_) (fun c52 => ?_)
    · have h := wfn c52 h
      refine h_blk 34 [(0, vr 7 o), (1, vr 2 a0), (2, vr 6 a1), (3, vr 0 a2), (4, vi a3), (5, vi a4)] [vr 6 a1] C f_wx_Walk_walkRun_33_1 rfl ?_
      obtain ⟨c53, h⟩ := wgd h
      refine h_getr5 C e_wx_Walk_walkRun_34 fg_Walk_186 h_a1 rfl rfl rfl rfl c53 (fun g54 => ?_)
      refine h_blk 41 [(6, vr 2 ((A 6 a1 13).toNat)), (0, vr 7 o), (1, vr 2 a0), (2, vr 6 a1), (3, vr 0 a2), (4, vi a3), (5, vi a4)] [vr 2 ((A 6 a1 13).toNat)] C f_wx_Walk_walkRun_37_2 rfl ?_
      refine h_ifnull C e_wx_Walk_walkRun_41 ?_
      refine h_blk 52 [(6, vr 2 ((A 6 a1 13).toNat)), (0, vr 7 o), (1, vr 2 a0), (2, vr 6 a1), (3, vr 0 a2), (4, vi a3), (5, vi a4)] [vi a4, vr 2 ((A 6 a1 13).toNat), vr 0 a2, vr 6 a1, vr 2 a0, vr 7 o] C f_wx_Walk_walkRun_44_6 rfl ?_
      refine w_wV C Rm Y wb.rfl' [vr 2 a0, vr 6 a1, vr 0 a2, vr 2 ((A 6 a1 13).toNat), vi a4] [] (wx_Walk_canRun hwst l D B H0 G0 k0 _ o a0 a1 a2 ((A 6 a1 13).toNat) a4 h_o h_a0 h_a1 h_a2 g54 _ h) cl_Walk_190 h_o rfl rfl rfl e_wx_Walk_walkRun_52 rfl rfl rfl ⟨by show _ ≤ ((fr + 68) : Nat); omega, by show _ ≤ ((lo + 3240) : Nat); omega⟩ (fun r55 A56 G57 k58 q59 p60 y61 b62 => ?_)
      have h := p60
      refine wk1 ?_
      obtain ⟨c63, h⟩ := wgd h
      refine h_if_ne (tgt := 60) C e_wx_Walk_walkRun_55 (by decide) c63 (fun c64 => ?_) (fun c64 => ?_)
      · have h := wfn c64 h
        refine h_blk 62 [(6, vr 2 ((A 6 a1 13).toNat)), (0, vr 7 o), (1, vr 2 a0), (2, vr 6 a1), (3, vr 0 a2), (4, vi a3), (5, vi a4)] [vi a3] C f_wx_Walk_walkRun_60_1 rfl ?_
        obtain ⟨q65, e66, h⟩ := h
        refine w_callSn C Rm Y b62 [vi a3] [] (hx_CS_maskOf l D B H0 G57 _ a3 _ _ e66) cl_Walk_65 e_wx_Walk_walkRun_62 rfl rfl rfl ⟨by show _ ≤ ((fr + 68) : Nat); omega, by show _ ≤ ((lo + 3240) : Nat); omega⟩ ?_
        rintro _ _ ⟨rfl, rfl⟩
        show HM g D G57 q59 q65.2 65 [(6, vr 2 ((A 6 a1 13).toNat)), (0, vr 7 o), (1, vr 2 a0), (2, vr 6 a1), (3, vr 0 a2), (4, vi a3), (5, vi a4)] [vi q65.1]
        refine h_blk 68 [(7, vi q65.1), (6, vr 2 ((A 6 a1 13).toNat)), (0, vr 7 o), (1, vr 2 a0), (2, vr 6 a1), (3, vr 0 a2), (4, vi a3), (5, vi a4)] [vr 7 o] C f_wx_Walk_walkRun_65_2 rfl ?_
        refine h_getr4 C e_wx_Walk_walkRun_68 fg_Walk_12 (y61 _ _ h_o) rfl rfl rfl rfl (fun g67 => ?_)
        obtain ⟨q68, e69, h⟩ := h
        refine w_callV C Rm Y b62 [] [] (hx_Mixer_clear l D B H0 G57 _ ((q65.2 7 o 0).toNat) g67 _ _ e69) cl_Walk_117 g67 rfl rfl rfl e_wx_Walk_walkRun_71 rfl rfl rfl ⟨by show _ ≤ ((fr + 68) : Nat); omega, by show _ ≤ ((lo + 3240) : Nat); omega⟩ ?_
        rintro _ _ ⟨rfl, rfl⟩
        show HM g D G57 q59 q68.2 74 [(7, vi q65.1), (6, vr 2 ((A 6 a1 13).toNat)), (0, vr 7 o), (1, vr 2 a0), (2, vr 6 a1), (3, vr 0 a2), (4, vi a3), (5, vi a4)] []
        refine h_blk 77 [(8, vi 0), (7, vi q65.1), (6, vr 2 ((A 6 a1 13).toNat)), (0, vr 7 o), (1, vr 2 a0), (2, vr 6 a1), (3, vr 0 a2), (4, vi a3), (5, vi a4)] [] C f_wx_Walk_walkRun_74_2 rfl ?_
        refine h_loc [(0, vr 7 o), (1, vr 2 a0), (2, vr 6 a1), (3, vr 0 a2), (6, vr 2 ((A 6 a1 13).toNat)), (7, vi q65.1), (8, vi 0)] ⟨rfl, rfl, rfl, rfl, rfl, rfl, rfl, trivial⟩ ?_
        exact hd_77 _ k58 G57 q59 (fun a τ z => y61 a τ ((fun _ _ z => z) a τ z)) b62 q68.2 o a0 a1 a2 ((A 6 a1 13).toNat) q65.1 0 ((y61 _ _ h_o)) ((y61 _ _ h_a0)) ((y61 _ _ h_a1)) ((y61 _ _ h_a2)) ((y61 _ _ g54)) h
      · have h := wfp c64 h
        refine h_blk 59 [(6, vr 2 ((A 6 a1 13).toNat)), (0, vr 7 o), (1, vr 2 a0), (2, vr 6 a1), (3, vr 0 a2), (4, vi a3), (5, vi a4)] [vi 0] C f_wx_Walk_walkRun_58_1 rfl ?_
        exact w_zret C Rm E (fun a τ z => y61 a τ ((fun _ _ z => z) a τ z)) b62 (Or.inl rfl) e_wx_Walk_walkRun_59 h
    · have h := wfp c52 h
      refine h_blk 19 [(0, vr 7 o), (1, vr 2 a0), (2, vr 6 a1), (3, vr 0 a2), (4, vi a3), (5, vi a4)] [vr 6 a1] C f_wx_Walk_walkRun_18_1 rfl ?_
      refine h_geti C e_wx_Walk_walkRun_19 fg_Walk_183 h_a1 rfl rfl rfl (A 6 a1 12) rfl ?_
      obtain ⟨c70, h⟩ := wgd h
      refine h_if_ne (tgt := 33) C e_wx_Walk_walkRun_22 (by decide) c70 (fun c71 => ?_) (fun c71 => ?_)
      · have h := wfn c71 h
        refine h_blk 34 [(0, vr 7 o), (1, vr 2 a0), (2, vr 6 a1), (3, vr 0 a2), (4, vi a3), (5, vi a4)] [vr 6 a1] C f_wx_Walk_walkRun_33_1 rfl ?_
        obtain ⟨c72, h⟩ := wgd h
        refine h_getr5 C e_wx_Walk_walkRun_34 fg_Walk_186 h_a1 rfl rfl rfl rfl c72 (fun g73 => ?_)
        refine h_blk 41 [(6, vr 2 ((A 6 a1 13).toNat)), (0, vr 7 o), (1, vr 2 a0), (2, vr 6 a1), (3, vr 0 a2), (4, vi a3), (5, vi a4)] [vr 2 ((A 6 a1 13).toNat)] C f_wx_Walk_walkRun_37_2 rfl ?_
        refine h_ifnull C e_wx_Walk_walkRun_41 ?_
        refine h_blk 52 [(6, vr 2 ((A 6 a1 13).toNat)), (0, vr 7 o), (1, vr 2 a0), (2, vr 6 a1), (3, vr 0 a2), (4, vi a3), (5, vi a4)] [vi a4, vr 2 ((A 6 a1 13).toNat), vr 0 a2, vr 6 a1, vr 2 a0, vr 7 o] C f_wx_Walk_walkRun_44_6 rfl ?_
        refine w_wV C Rm Y wb.rfl' [vr 2 a0, vr 6 a1, vr 0 a2, vr 2 ((A 6 a1 13).toNat), vi a4] [] (wx_Walk_canRun hwst l D B H0 G0 k0 _ o a0 a1 a2 ((A 6 a1 13).toNat) a4 h_o h_a0 h_a1 h_a2 g73 _ h) cl_Walk_190 h_o rfl rfl rfl e_wx_Walk_walkRun_52 rfl rfl rfl ⟨by show _ ≤ ((fr + 68) : Nat); omega, by show _ ≤ ((lo + 3240) : Nat); omega⟩ (fun r74 A75 G76 k77 q78 p79 y80 b81 => ?_)
        have h := p79
        refine wk1 ?_
        obtain ⟨c82, h⟩ := wgd h
        refine h_if_ne (tgt := 60) C e_wx_Walk_walkRun_55 (by decide) c82 (fun c83 => ?_) (fun c83 => ?_)
        · have h := wfn c83 h
          refine h_blk 62 [(6, vr 2 ((A 6 a1 13).toNat)), (0, vr 7 o), (1, vr 2 a0), (2, vr 6 a1), (3, vr 0 a2), (4, vi a3), (5, vi a4)] [vi a3] C f_wx_Walk_walkRun_60_1 rfl ?_
          obtain ⟨q84, e85, h⟩ := h
          refine w_callSn C Rm Y b81 [vi a3] [] (hx_CS_maskOf l D B H0 G76 _ a3 _ _ e85) cl_Walk_65 e_wx_Walk_walkRun_62 rfl rfl rfl ⟨by show _ ≤ ((fr + 68) : Nat); omega, by show _ ≤ ((lo + 3240) : Nat); omega⟩ ?_
          rintro _ _ ⟨rfl, rfl⟩
          show HM g D G76 q78 q84.2 65 [(6, vr 2 ((A 6 a1 13).toNat)), (0, vr 7 o), (1, vr 2 a0), (2, vr 6 a1), (3, vr 0 a2), (4, vi a3), (5, vi a4)] [vi q84.1]
          refine h_blk 68 [(7, vi q84.1), (6, vr 2 ((A 6 a1 13).toNat)), (0, vr 7 o), (1, vr 2 a0), (2, vr 6 a1), (3, vr 0 a2), (4, vi a3), (5, vi a4)] [vr 7 o] C f_wx_Walk_walkRun_65_2 rfl ?_
          refine h_getr4 C e_wx_Walk_walkRun_68 fg_Walk_12 (y80 _ _ h_o) rfl rfl rfl rfl (fun g86 => ?_)
          obtain ⟨q87, e88, h⟩ := h
          refine w_callV C Rm Y b81 [] [] (hx_Mixer_clear l D B H0 G76 _ ((q84.2 7 o 0).toNat) g86 _ _ e88) cl_Walk_117 g86 rfl rfl rfl e_wx_Walk_walkRun_71 rfl rfl rfl ⟨by show _ ≤ ((fr + 68) : Nat); omega, by show _ ≤ ((lo + 3240) : Nat); omega⟩ ?_
          rintro _ _ ⟨rfl, rfl⟩
          show HM g D G76 q78 q87.2 74 [(7, vi q84.1), (6, vr 2 ((A 6 a1 13).toNat)), (0, vr 7 o), (1, vr 2 a0), (2, vr 6 a1), (3, vr 0 a2), (4, vi a3), (5, vi a4)] []
          refine h_blk 77 [(8, vi 0), (7, vi q84.1), (6, vr 2 ((A 6 a1 13).toNat)), (0, vr 7 o), (1, vr 2 a0), (2, vr 6 a1), (3, vr 0 a2), (4, vi a3), (5, vi a4)] [] C f_wx_Walk_walkRun_74_2 rfl ?_
          refine h_loc [(0, vr 7 o), (1, vr 2 a0), (2, vr 6 a1), (3, vr 0 a2), (6, vr 2 ((A 6 a1 13).toNat)), (7, vi q84.1), (8, vi 0)] ⟨rfl, rfl, rfl, rfl, rfl, rfl, rfl, trivial⟩ ?_
          exact hd_77 _ k77 G76 q78 (fun a τ z => y80 a τ ((fun _ _ z => z) a τ z)) b81 q87.2 o a0 a1 a2 ((A 6 a1 13).toNat) q84.1 0 ((y80 _ _ h_o)) ((y80 _ _ h_a0)) ((y80 _ _ h_a1)) ((y80 _ _ h_a2)) ((y80 _ _ g73)) h
        · have h := wfp c83 h
          refine h_blk 59 [(6, vr 2 ((A 6 a1 13).toNat)), (0, vr 7 o), (1, vr 2 a0), (2, vr 6 a1), (3, vr 0 a2), (4, vi a3), (5, vi a4)] [vi 0] C f_wx_Walk_walkRun_58_1 rfl ?_
          exact w_zret C Rm E (fun a τ z => y80 a τ ((fun _ _ z => z) a τ z)) b81 (Or.inl rfl) e_wx_Walk_walkRun_59 h
      · have h := wfp c71 h
        refine h_blk 29 [(0, vr 7 o), (1, vr 2 a0), (2, vr 6 a1), (3, vr 0 a2), (4, vi a3), (5, vi a4)] [vi a3, vr 0 a2, vr 7 o] C f_wx_Walk_walkRun_25_3 rfl ?_
        obtain ⟨q89, e90, h⟩ := h
        refine w_callV C Rm Y wb.rfl' [vr 0 a2, vi a3] [] (hx_Walk_forget l D B H0 G0 _ o a2 a3 h_o h_a2 _ _ e90) cl_Walk_180 h_o rfl rfl rfl e_wx_Walk_walkRun_29 rfl rfl rfl ⟨by show _ ≤ ((fr + 68) : Nat); omega, by show _ ≤ ((lo + 3240) : Nat); omega⟩ ?_
        rintro _ _ ⟨rfl, rfl⟩
        show HM g D G0 q0 q89.2 32 [(0, vr 7 o), (1, vr 2 a0), (2, vr 6 a1), (3, vr 0 a2), (4, vi a3), (5, vi a4)] [vi q89.1]
        obtain ⟨c91, h⟩ := wgd h
        exact w_zret C Rm E (fun _ _ z => z) wb.rfl' c91 e_wx_Walk_walkRun_32 h

def w_Walk_walkStep (wst : Nat → tG → mA → Nat → Nat → Int → Nat → Int → Int → wQ → Prop) (k0 : Nat) (G0 : tG) (A : mA) (o : Nat) (a0 : Nat) (a1 : Int) (a2 : Nat) (a3 : Int) (a4 : Int) (Q : wQ) : Prop := (∃ q1, f_Prog_stepAt A a0 a1 = some q1 ∧ (if g32 (q1.2 6 q1.1.toNat 0) then (if (q1.2 6 q1.1.toNat 0) = 0 then (∃ q6, f_CS_maskOf q1.2 a3 = some q6 ∧ (∃ q8, f_Walk_walkDraw q6.2 o a0 q1.1.toNat a2 q6.1 = some q8 ∧ (if (q8.1 = 0 ∨ q8.1 = 1) then (Q q8.1 q8.2 G0 k0) else False))) else if (q1.2 6 q1.1.toNat 0) = 1 then (∃ q12, f_CS_maskOf q1.2 a3 = some q12 ∧ (∃ q14, f_Walk_walkLet q12.2 o a0 q1.1.toNat a2 q12.1 = some q14 ∧ (if (q14.1 = 0 ∨ q14.1 = 1) then (Q q14.1 q14.2 G0 k0) else False))) else if (q1.2 6 q1.1.toNat 0) = 2 then (∃ q18, f_CS_maskOf q1.2 a3 = some q18 ∧ (∃ q20, f_Walk_walkSee q18.2 o a0 q1.1.toNat a2 q18.1 = some q20 ∧ (if (q20.1 = 0 ∨ q20.1 = 1) then (Q q20.1 q20.2 G0 k0) else False))) else if (q1.2 6 q1.1.toNat 0) = 3 then (w_Walk_walkIf wst k0 G0 q1.2 o a0 a1 a2 a3 a4 (fun r24 A25 G26 k27 => (if (r24 = 0 ∨ r24 = 1) then (Q r24 A25 G26 k27) else False))) else if (q1.2 6 q1.1.toNat 0) = 4 then (w_Walk_walkLoop wst k0 G0 q1.2 o a0 a1 a2 a3 a4 (fun r34 A35 G36 k37 => (if (r34 = 0 ∨ r34 = 1) then (Q r34 A35 G36 k37) else False))) else (w_Walk_walkRun wst k0 G0 q1.2 o a0 q1.1.toNat a2 a3 a4 (fun r43 A44 G45 k46 => (if (r43 = 0 ∨ r43 = 1) then (Q r43 A44 G45 k46) else False)))) else False))
theorem f_wx_Walk_walkStep_0_2 : mblkB b_Walk_walkStep [(0, .aload_n 1, vi 0), (1, .iload_n 2, vi 0)] = true := by decide +kernel
theorem e_wx_Walk_walkStep_2 : decode b_Walk_walkStep 2 = .ok (.invokevirtual 88, 3) := by decide +kernel
theorem f_wx_Walk_walkStep_5_2 : mblkB b_Walk_walkStep [(5, .astore 6, vi 0), (7, .aload 6, vi 0)] = true := by decide +kernel
theorem e_wx_Walk_walkStep_9 : decode b_Walk_walkStep 9 = .ok (.getfield 92, 3) := by decide +kernel
theorem e_wx_Walk_walkStep_12 : decode b_Walk_walkStep 12 = .ok (.tableswitch 102 0 4 #[36, 50, 64, 78, 90], 36) := by decide +kernel
theorem f_wx_Walk_walkStep_48_5 : mblkB b_Walk_walkStep [(48, .aload_n 0, vi 0), (49, .aload_n 1, vi 0), (50, .aload 6, vi 0), (52, .aload_n 3, vi 0), (53, .iload 4, vi 0)] = true := by decide +kernel
theorem e_wx_Walk_walkStep_55 : decode b_Walk_walkStep 55 = .ok (.invokestatic 65, 3) := by decide +kernel
theorem e_wx_Walk_walkStep_58 : decode b_Walk_walkStep 58 = .ok (.invokevirtual 97, 3) := by decide +kernel
theorem e_wx_Walk_walkStep_61 : decode b_Walk_walkStep 61 = .ok (.ireturn, 1) := by decide +kernel
theorem f_wx_Walk_walkStep_62_5 : mblkB b_Walk_walkStep [(62, .aload_n 0, vi 0), (63, .aload_n 1, vi 0), (64, .aload 6, vi 0), (66, .aload_n 3, vi 0), (67, .iload 4, vi 0)] = true := by decide +kernel
theorem e_wx_Walk_walkStep_69 : decode b_Walk_walkStep 69 = .ok (.invokestatic 65, 3) := by decide +kernel
theorem e_wx_Walk_walkStep_72 : decode b_Walk_walkStep 72 = .ok (.invokevirtual 101, 3) := by decide +kernel
theorem e_wx_Walk_walkStep_75 : decode b_Walk_walkStep 75 = .ok (.ireturn, 1) := by decide +kernel
theorem f_wx_Walk_walkStep_76_5 : mblkB b_Walk_walkStep [(76, .aload_n 0, vi 0), (77, .aload_n 1, vi 0), (78, .aload 6, vi 0), (80, .aload_n 3, vi 0), (81, .iload 4, vi 0)] = true := by decide +kernel
theorem e_wx_Walk_walkStep_83 : decode b_Walk_walkStep 83 = .ok (.invokestatic 65, 3) := by decide +kernel
theorem e_wx_Walk_walkStep_86 : decode b_Walk_walkStep 86 = .ok (.invokevirtual 104, 3) := by decide +kernel
theorem e_wx_Walk_walkStep_89 : decode b_Walk_walkStep 89 = .ok (.ireturn, 1) := by decide +kernel
theorem f_wx_Walk_walkStep_90_6 : mblkB b_Walk_walkStep [(90, .aload_n 0, vi 0), (91, .aload_n 1, vi 0), (92, .iload_n 2, vi 0), (93, .aload_n 3, vi 0), (94, .iload 4, vi 0), (96, .iload 5, vi 0)] = true := by decide +kernel
theorem e_wx_Walk_walkStep_98 : decode b_Walk_walkStep 98 = .ok (.invokevirtual 107, 3) := by decide +kernel
theorem e_wx_Walk_walkStep_101 : decode b_Walk_walkStep 101 = .ok (.ireturn, 1) := by decide +kernel
theorem f_wx_Walk_walkStep_102_6 : mblkB b_Walk_walkStep [(102, .aload_n 0, vi 0), (103, .aload_n 1, vi 0), (104, .iload_n 2, vi 0), (105, .aload_n 3, vi 0), (106, .iload 4, vi 0), (108, .iload 5, vi 0)] = true := by decide +kernel
theorem e_wx_Walk_walkStep_110 : decode b_Walk_walkStep 110 = .ok (.invokevirtual 110, 3) := by decide +kernel
theorem e_wx_Walk_walkStep_113 : decode b_Walk_walkStep 113 = .ok (.ireturn, 1) := by decide +kernel
theorem f_wx_Walk_walkStep_114_6 : mblkB b_Walk_walkStep [(114, .aload_n 0, vi 0), (115, .aload_n 1, vi 0), (116, .aload 6, vi 0), (118, .aload_n 3, vi 0), (119, .iload 4, vi 0), (121, .iload 5, vi 0)] = true := by decide +kernel
theorem e_wx_Walk_walkStep_123 : decode b_Walk_walkStep 123 = .ok (.invokevirtual 113, 3) := by decide +kernel
theorem e_wx_Walk_walkStep_126 : decode b_Walk_walkStep 126 = .ok (.ireturn, 1) := by decide +kernel
set_option maxHeartbeats 4000000 in
set_option maxRecDepth 20000 in
theorem wx_Walk_walkStep {wst : Nat → tG → mA → Nat → Nat → Int → Nat → Int → Int → wQ → Prop} {fr lo : Nat} (hwst : ∀ (l : Launch) (D : va_G) (B : Nat) (H0 : Heap) (G0 : tG) (k0 : Nat) (A : mA) (o : Nat) (a0 : Nat) (a1 : Int) (a2 : Nat) (a3 : Int) (a4 : Int) (h_o : G0 o = some 7) (h_a0 : G0 a0 = some 2) (h_a2 : G0 a2 = some 0)  (Q : wQ), wst k0 G0 A o a0 a1 a2 a3 a4 Q → wMet l D B H0 G0 k0 y_Walk_walkStep b_Walk_walkStep 7 (some .boolean) (fr + 60) (lo + 3000) 1 [vr 7 o, vr 2 a0, vi a1, vr 0 a2, vi a3, vi a4] A Q) : ∀ (l : Launch) (D : va_G) (B : Nat) (H0 : Heap) (G0 : tG) (k0 : Nat) (A : mA) (o : Nat) (a0 : Nat) (a1 : Int) (a2 : Nat) (a3 : Int) (a4 : Int) (h_o : G0 o = some 7) (h_a0 : G0 a0 = some 2) (h_a2 : G0 a2 = some 0)  (Q : wQ), w_Walk_walkStep wst k0 G0 A o a0 a1 a2 a3 a4 Q → wMet l D B H0 G0 k0 y_Walk_walkStep b_Walk_walkStep 7 (some .boolean) (fr + 70) (lo + 3300) 1 [vr 7 o, vr 2 a0, vi a1, vr 0 a2, vi a3, vi a4] A Q := by
  intro l D B H0 G0 k0 A o a0 a1 a2 a3 a4 h_o h_a0 h_a2 Q h
  refine w_met (by decide) rfl (fun g q0 C Rm Y E => ?_)
  show HM g D G0 q0 A 0 [(0, vr 7 o), (1, vr 2 a0), (2, vi a1), (3, vr 0 a2), (4, vi a3), (5, vi a4)] []
  unfold w_Walk_walkStep at h
  refine h_blk 2 [(0, vr 7 o), (1, vr 2 a0), (2, vi a1), (3, vr 0 a2), (4, vi a3), (5, vi a4)] [vi a1, vr 2 a0] C f_wx_Walk_walkStep_0_2 rfl ?_
  obtain ⟨q1, e2, h⟩ := h
  refine w_callV C Rm Y wb.rfl' [vi a1] [] (hx_Prog_stepAt l D B H0 G0 _ a0 a1 h_a0 _ _ e2) cl_Walk_88 h_a0 rfl rfl rfl e_wx_Walk_walkStep_2 rfl rfl rfl ⟨by show _ ≤ ((fr + 70) : Nat); omega, by show _ ≤ ((lo + 3300) : Nat); omega⟩ ?_
  rintro _ _ ⟨rfl, rfl, g3⟩
  show HM g D G0 q0 q1.2 5 [(0, vr 7 o), (1, vr 2 a0), (2, vi a1), (3, vr 0 a2), (4, vi a3), (5, vi a4)] [vr 6 q1.1.toNat]
  refine h_blk 9 [(6, vr 6 q1.1.toNat), (0, vr 7 o), (1, vr 2 a0), (2, vi a1), (3, vr 0 a2), (4, vi a3), (5, vi a4)] [vr 6 q1.1.toNat] C f_wx_Walk_walkStep_5_2 rfl ?_
  refine h_geti C e_wx_Walk_walkStep_9 fg_Walk_92 g3 rfl rfl rfl (q1.2 6 q1.1.toNat 0) rfl ?_
  obtain ⟨c4, h⟩ := wgd h
  by_cases c5 : (q1.2 6 q1.1.toNat 0) = 0
  · have h := wfp c5 h
    refine h_tabIn (tgt := 48) C e_wx_Walk_walkStep_12 c4 (by omega) (by omega) (by rw [c5]; rfl) (by decide) ?_
    refine h_blk 55 [(6, vr 6 q1.1.toNat), (0, vr 7 o), (1, vr 2 a0), (2, vi a1), (3, vr 0 a2), (4, vi a3), (5, vi a4)] [vi a3, vr 0 a2, vr 6 q1.1.toNat, vr 2 a0, vr 7 o] C f_wx_Walk_walkStep_48_5 rfl ?_
    obtain ⟨q6, e7, h⟩ := h
    refine w_callSn C Rm Y wb.rfl' [vi a3] [vr 0 a2, vr 6 q1.1.toNat, vr 2 a0, vr 7 o] (hx_CS_maskOf l D B H0 G0 _ a3 _ _ e7) cl_Walk_65 e_wx_Walk_walkStep_55 rfl rfl rfl ⟨by show _ ≤ ((fr + 70) : Nat); omega, by show _ ≤ ((lo + 3300) : Nat); omega⟩ ?_
    rintro _ _ ⟨rfl, rfl⟩
    show HM g D G0 q0 q6.2 58 [(6, vr 6 q1.1.toNat), (0, vr 7 o), (1, vr 2 a0), (2, vi a1), (3, vr 0 a2), (4, vi a3), (5, vi a4)] [vi q6.1, vr 0 a2, vr 6 q1.1.toNat, vr 2 a0, vr 7 o]
    obtain ⟨q8, e9, h⟩ := h
    refine w_callV C Rm Y wb.rfl' [vr 2 a0, vr 6 q1.1.toNat, vr 0 a2, vi q6.1] [] (hx_Walk_walkDraw l D B H0 G0 _ o a0 q1.1.toNat a2 q6.1 h_o h_a0 g3 h_a2 _ _ e9) cl_Walk_97 h_o rfl rfl rfl e_wx_Walk_walkStep_58 rfl rfl rfl ⟨by show _ ≤ ((fr + 70) : Nat); omega, by show _ ≤ ((lo + 3300) : Nat); omega⟩ ?_
    rintro _ _ ⟨rfl, rfl⟩
    show HM g D G0 q0 q8.2 61 [(6, vr 6 q1.1.toNat), (0, vr 7 o), (1, vr 2 a0), (2, vi a1), (3, vr 0 a2), (4, vi a3), (5, vi a4)] [vi q8.1]
    obtain ⟨c10, h⟩ := wgd h
    exact w_zret C Rm E (fun _ _ z => z) wb.rfl' c10 e_wx_Walk_walkStep_61 h
  have h := wfn c5 h
  by_cases c11 : (q1.2 6 q1.1.toNat 0) = 1
  · have h := wfp c11 h
    refine h_tabIn (tgt := 62) C e_wx_Walk_walkStep_12 c4 (by omega) (by omega) (by rw [c11]; rfl) (by decide) ?_
    refine h_blk 69 [(6, vr 6 q1.1.toNat), (0, vr 7 o), (1, vr 2 a0), (2, vi a1), (3, vr 0 a2), (4, vi a3), (5, vi a4)] [vi a3, vr 0 a2, vr 6 q1.1.toNat, vr 2 a0, vr 7 o] C f_wx_Walk_walkStep_62_5 rfl ?_
    obtain ⟨q12, e13, h⟩ := h
    refine w_callSn C Rm Y wb.rfl' [vi a3] [vr 0 a2, vr 6 q1.1.toNat, vr 2 a0, vr 7 o] (hx_CS_maskOf l D B H0 G0 _ a3 _ _ e13) cl_Walk_65 e_wx_Walk_walkStep_69 rfl rfl rfl ⟨by show _ ≤ ((fr + 70) : Nat); omega, by show _ ≤ ((lo + 3300) : Nat); omega⟩ ?_
    rintro _ _ ⟨rfl, rfl⟩
    show HM g D G0 q0 q12.2 72 [(6, vr 6 q1.1.toNat), (0, vr 7 o), (1, vr 2 a0), (2, vi a1), (3, vr 0 a2), (4, vi a3), (5, vi a4)] [vi q12.1, vr 0 a2, vr 6 q1.1.toNat, vr 2 a0, vr 7 o]
    obtain ⟨q14, e15, h⟩ := h
    refine w_callV C Rm Y wb.rfl' [vr 2 a0, vr 6 q1.1.toNat, vr 0 a2, vi q12.1] [] (hx_Walk_walkLet l D B H0 G0 _ o a0 q1.1.toNat a2 q12.1 h_o h_a0 g3 h_a2 _ _ e15) cl_Walk_101 h_o rfl rfl rfl e_wx_Walk_walkStep_72 rfl rfl rfl ⟨by show _ ≤ ((fr + 70) : Nat); omega, by show _ ≤ ((lo + 3300) : Nat); omega⟩ ?_
    rintro _ _ ⟨rfl, rfl⟩
    show HM g D G0 q0 q14.2 75 [(6, vr 6 q1.1.toNat), (0, vr 7 o), (1, vr 2 a0), (2, vi a1), (3, vr 0 a2), (4, vi a3), (5, vi a4)] [vi q14.1]
    obtain ⟨c16, h⟩ := wgd h
    exact w_zret C Rm E (fun _ _ z => z) wb.rfl' c16 e_wx_Walk_walkStep_75 h
  have h := wfn c11 h
  by_cases c17 : (q1.2 6 q1.1.toNat 0) = 2
  · have h := wfp c17 h
    refine h_tabIn (tgt := 76) C e_wx_Walk_walkStep_12 c4 (by omega) (by omega) (by rw [c17]; rfl) (by decide) ?_
    refine h_blk 83 [(6, vr 6 q1.1.toNat), (0, vr 7 o), (1, vr 2 a0), (2, vi a1), (3, vr 0 a2), (4, vi a3), (5, vi a4)] [vi a3, vr 0 a2, vr 6 q1.1.toNat, vr 2 a0, vr 7 o] C f_wx_Walk_walkStep_76_5 rfl ?_
    obtain ⟨q18, e19, h⟩ := h
    refine w_callSn C Rm Y wb.rfl' [vi a3] [vr 0 a2, vr 6 q1.1.toNat, vr 2 a0, vr 7 o] (hx_CS_maskOf l D B H0 G0 _ a3 _ _ e19) cl_Walk_65 e_wx_Walk_walkStep_83 rfl rfl rfl ⟨by show _ ≤ ((fr + 70) : Nat); omega, by show _ ≤ ((lo + 3300) : Nat); omega⟩ ?_
    rintro _ _ ⟨rfl, rfl⟩
    show HM g D G0 q0 q18.2 86 [(6, vr 6 q1.1.toNat), (0, vr 7 o), (1, vr 2 a0), (2, vi a1), (3, vr 0 a2), (4, vi a3), (5, vi a4)] [vi q18.1, vr 0 a2, vr 6 q1.1.toNat, vr 2 a0, vr 7 o]
    obtain ⟨q20, e21, h⟩ := h
    refine w_callV C Rm Y wb.rfl' [vr 2 a0, vr 6 q1.1.toNat, vr 0 a2, vi q18.1] [] (hx_Walk_walkSee l D B H0 G0 _ o a0 q1.1.toNat a2 q18.1 h_o h_a0 g3 h_a2 _ _ e21) cl_Walk_104 h_o rfl rfl rfl e_wx_Walk_walkStep_86 rfl rfl rfl ⟨by show _ ≤ ((fr + 70) : Nat); omega, by show _ ≤ ((lo + 3300) : Nat); omega⟩ ?_
    rintro _ _ ⟨rfl, rfl⟩
    show HM g D G0 q0 q20.2 89 [(6, vr 6 q1.1.toNat), (0, vr 7 o), (1, vr 2 a0), (2, vi a1), (3, vr 0 a2), (4, vi a3), (5, vi a4)] [vi q20.1]
    obtain ⟨c22, h⟩ := wgd h
    exact w_zret C Rm E (fun _ _ z => z) wb.rfl' c22 e_wx_Walk_walkStep_89 h
  have h := wfn c17 h
  by_cases c23 : (q1.2 6 q1.1.toNat 0) = 3
  · have h := wfp c23 h
    refine h_tabIn (tgt := 90) C e_wx_Walk_walkStep_12 c4 (by omega) (by omega) (by rw [c23]; rfl) (by decide) ?_
    refine h_blk 98 [(6, vr 6 q1.1.toNat), (0, vr 7 o), (1, vr 2 a0), (2, vi a1), (3, vr 0 a2), (4, vi a3), (5, vi a4)] [vi a4, vi a3, vr 0 a2, vi a1, vr 2 a0, vr 7 o] C f_wx_Walk_walkStep_90_6 rfl ?_
    refine w_wV C Rm Y wb.rfl' [vr 2 a0, vi a1, vr 0 a2, vi a3, vi a4] [] (wx_Walk_walkIf hwst l D B H0 G0 k0 _ o a0 a1 a2 a3 a4 h_o h_a0 h_a2 _ h) cl_Walk_107 h_o rfl rfl rfl e_wx_Walk_walkStep_98 rfl rfl rfl ⟨by show _ ≤ ((fr + 70) : Nat); omega, by show _ ≤ ((lo + 3300) : Nat); omega⟩ (fun r24 A25 G26 k27 q28 p29 y30 b31 => ?_)
    have h := p29
    refine wk1 ?_
    obtain ⟨c32, h⟩ := wgd h
    exact w_zret C Rm E (fun a τ z => y30 a τ ((fun _ _ z => z) a τ z)) b31 c32 e_wx_Walk_walkStep_101 h
  have h := wfn c23 h
  by_cases c33 : (q1.2 6 q1.1.toNat 0) = 4
  · have h := wfp c33 h
    refine h_tabIn (tgt := 102) C e_wx_Walk_walkStep_12 c4 (by omega) (by omega) (by rw [c33]; rfl) (by decide) ?_
    refine h_blk 110 [(6, vr 6 q1.1.toNat), (0, vr 7 o), (1, vr 2 a0), (2, vi a1), (3, vr 0 a2), (4, vi a3), (5, vi a4)] [vi a4, vi a3, vr 0 a2, vi a1, vr 2 a0, vr 7 o] C f_wx_Walk_walkStep_102_6 rfl ?_
    refine w_wV C Rm Y wb.rfl' [vr 2 a0, vi a1, vr 0 a2, vi a3, vi a4] [] (wx_Walk_walkLoop hwst l D B H0 G0 k0 _ o a0 a1 a2 a3 a4 h_o h_a0 h_a2 _ h) cl_Walk_110 h_o rfl rfl rfl e_wx_Walk_walkStep_110 rfl rfl rfl ⟨by show _ ≤ ((fr + 70) : Nat); omega, by show _ ≤ ((lo + 3300) : Nat); omega⟩ (fun r34 A35 G36 k37 q38 p39 y40 b41 => ?_)
    have h := p39
    refine wk1 ?_
    obtain ⟨c42, h⟩ := wgd h
    exact w_zret C Rm E (fun a τ z => y40 a τ ((fun _ _ z => z) a τ z)) b41 c42 e_wx_Walk_walkStep_113 h
  have h := wfn c33 h
  refine h_tabOut (tgt := 114) C e_wx_Walk_walkStep_12 c4 (by omega) (by decide) ?_
  refine h_blk 123 [(6, vr 6 q1.1.toNat), (0, vr 7 o), (1, vr 2 a0), (2, vi a1), (3, vr 0 a2), (4, vi a3), (5, vi a4)] [vi a4, vi a3, vr 0 a2, vr 6 q1.1.toNat, vr 2 a0, vr 7 o] C f_wx_Walk_walkStep_114_6 rfl ?_
  refine w_wV C Rm Y wb.rfl' [vr 2 a0, vr 6 q1.1.toNat, vr 0 a2, vi a3, vi a4] [] (wx_Walk_walkRun hwst l D B H0 G0 k0 _ o a0 q1.1.toNat a2 a3 a4 h_o h_a0 g3 h_a2 _ h) cl_Walk_113 h_o rfl rfl rfl e_wx_Walk_walkStep_123 rfl rfl rfl ⟨by show _ ≤ ((fr + 70) : Nat); omega, by show _ ≤ ((lo + 3300) : Nat); omega⟩ (fun r43 A44 G45 k46 q47 p48 y49 b50 => ?_)
  have h := p48
  refine wk1 ?_
  obtain ⟨c51, h⟩ := wgd h
  exact w_zret C Rm E (fun a τ z => y49 a τ ((fun _ _ z => z) a τ z)) b50 c51 e_wx_Walk_walkStep_126 h

def w_Walk_wsN : Nat → Nat → tG → mA → Nat → Nat → Int → Nat → Int → Int → wQ → Prop
  | 0, _, _, _, _, _, _, _, _, _, _ => False
  | n + 1, k, G, A, o, a0, a1, a2, a3, a4, Q => w_Walk_walkStep (w_Walk_wsN n) k G A o a0 a1 a2 a3 a4 Q
theorem wx_Walk_wsN : ∀ n : Nat, ∀ (l : Launch) (D : va_G) (B : Nat) (H0 : Heap) (G0 : tG) (k0 : Nat) (A : mA) (o : Nat) (a0 : Nat) (a1 : Int) (a2 : Nat) (a3 : Int) (a4 : Int) (h_o : G0 o = some 7) (h_a0 : G0 a0 = some 2) (h_a2 : G0 a2 = some 0)  (Q : wQ), w_Walk_wsN n k0 G0 A o a0 a1 a2 a3 a4 Q → wMet l D B H0 G0 k0 y_Walk_walkStep b_Walk_walkStep 7 (some .boolean) (10 * n + 60) (300 * n + 3000) 1 [vr 7 o, vr 2 a0, vi a1, vr 0 a2, vi a3, vi a4] A Q := by
  intro n
  induction n with
  | zero => intro l D B H0 G0 k0 A o a0 a1 a2 a3 a4 h_o h_a0 h_a2 Q h; exact h.elim
  | succ n ih =>
    intro l D B H0 G0 k0 A o a0 a1 a2 a3 a4 h_o h_a0 h_a2 Q h
    have k := wx_Walk_walkStep ih l D B H0 G0 k0 A o a0 a1 a2 a3 a4 h_o h_a0 h_a2 Q h
    have e1 : 10 * (n + 1) + 60 = 10 * n + 70 := by omega
    have e2 : 300 * (n + 1) + 3000 = 300 * n + 3300 := by omega
    rw [e1, e2]
    exact k
def w_Walk_endFrom (k0 : Nat) (G0 : tG) (A : mA) (o : Nat) (a0 : Nat) (a1 : Int) (Q : wQ) : Prop := (if 0 ≤ (A 2 a0 13) then (if g32 (A 2 a0 14) then if g32 a1 then (if (A 2 a0 14) = a1 then (if g32 (A 2 a0 15) then (if (A 2 a0 15) = 0 then (Q (-1) A G0 k0) else (Q (((A 2 a0 13).toNat : Nat) : Int) A G0 k0)) else False) else (∃ q10, f_Crowd_begin (mu A 2 a0 14 a1) ((A 2 a0 13).toNat) a1 = some q10 ∧ (if 0 ≤ (q10.2 2 a0 13) then (w_Walk_walkBlock (w_Walk_wsN 40) k0 G0 q10.2 o a0 0 (q10.2 2 a0 1) ((q10.2 2 a0 13).toNat) (-1) 0 (fun r14 A15 G16 k17 => (if (r14 = 0 ∨ r14 = 1) then (if g32 r14 then (if r14 = 0 then (Q (-1) (mu A15 2 a0 15 r14) G16 k17) else (if 0 ≤ (A15 2 a0 13) then (Q (((A15 2 a0 13).toNat : Nat) : Int) (mu A15 2 a0 15 r14) G16 k17) else False)) else False) else False))) else False))) else False else False) else (∃ k27, k0 = k27 + 1 ∧ ∀ o28 o29 o30, crF G0 o28 o29 o30 → (if g32 ((crI A o28 o29 o30) 2 a0 14) then if g32 a1 then (if ((crI A o28 o29 o30) 2 a0 14) = a1 then (if g32 ((crI A o28 o29 o30) 2 a0 15) then (if ((crI A o28 o29 o30) 2 a0 15) = 0 then (Q (-1) (mu (crI A o28 o29 o30) 2 a0 13 ((o28 : Nat) : Int)) (crG G0 o28 o29 o30) k27) else (if 0 ≤ ((mu (crI A o28 o29 o30) 2 a0 13 ((o28 : Nat) : Int)) 2 a0 13) then (Q ((((mu (crI A o28 o29 o30) 2 a0 13 ((o28 : Nat) : Int)) 2 a0 13).toNat : Nat) : Int) (mu (crI A o28 o29 o30) 2 a0 13 ((o28 : Nat) : Int)) (crG G0 o28 o29 o30) k27) else False)) else False) else (if 0 ≤ ((mu (crI A o28 o29 o30) 2 a0 13 ((o28 : Nat) : Int)) 2 a0 13) then (∃ q46, f_Crowd_begin (mu (mu (crI A o28 o29 o30) 2 a0 13 ((o28 : Nat) : Int)) 2 a0 14 a1) (((mu (crI A o28 o29 o30) 2 a0 13 ((o28 : Nat) : Int)) 2 a0 13).toNat) a1 = some q46 ∧ (if 0 ≤ (q46.2 2 a0 13) then (w_Walk_walkBlock (w_Walk_wsN 40) k27 (crG G0 o28 o29 o30) q46.2 o a0 0 (q46.2 2 a0 1) ((q46.2 2 a0 13).toNat) (-1) 0 (fun r50 A51 G52 k53 => (if (r50 = 0 ∨ r50 = 1) then (if g32 r50 then (if r50 = 0 then (Q (-1) (mu A51 2 a0 15 r50) G52 k53) else (if 0 ≤ (A51 2 a0 13) then (Q (((A51 2 a0 13).toNat : Nat) : Int) (mu A51 2 a0 15 r50) G52 k53) else False)) else False) else False))) else False)) else False)) else False else False)))
theorem f_wx_Walk_endFrom_0_1 : mblkB b_Walk_endFrom [(0, .aload_n 1, vi 0)] = true := by decide +kernel
theorem e_wx_Walk_endFrom_1 : decode b_Walk_endFrom 1 = .ok (.getfield 24, 3) := by decide +kernel
theorem e_wx_Walk_endFrom_4 : decode b_Walk_endFrom 4 = .ok (.ifnonnull 14, 3) := by decide +kernel
theorem f_wx_Walk_endFrom_18_1 : mblkB b_Walk_endFrom [(18, .aload_n 1, vi 0)] = true := by decide +kernel
theorem e_wx_Walk_endFrom_19 : decode b_Walk_endFrom 19 = .ok (.getfield 31, 3) := by decide +kernel
theorem f_wx_Walk_endFrom_22_1 : mblkB b_Walk_endFrom [(22, .iload_n 2, vi 0)] = true := by decide +kernel
theorem e_wx_Walk_endFrom_23 : decode b_Walk_endFrom 23 = .ok (.if_icmp .eq 36, 3) := by decide +kernel
theorem f_wx_Walk_endFrom_59_1 : mblkB b_Walk_endFrom [(59, .aload_n 1, vi 0)] = true := by decide +kernel
theorem e_wx_Walk_endFrom_60 : decode b_Walk_endFrom 60 = .ok (.getfield 46, 3) := by decide +kernel
theorem e_wx_Walk_endFrom_63 : decode b_Walk_endFrom 63 = .ok (.ifCond .eq 10, 3) := by decide +kernel
theorem e_wx_Walk_endFrom_73 : decode b_Walk_endFrom 73 = .ok (.aconst_null, 1) := by decide +kernel
theorem e_wx_Walk_endFrom_74 : decode b_Walk_endFrom 74 = .ok (.areturn, 1) := by decide +kernel
theorem f_wx_Walk_endFrom_66_1 : mblkB b_Walk_endFrom [(66, .aload_n 1, vi 0)] = true := by decide +kernel
theorem e_wx_Walk_endFrom_67 : decode b_Walk_endFrom 67 = .ok (.getfield 24, 3) := by decide +kernel
theorem f_wx_Walk_endFrom_70_1 : mblkB b_Walk_endFrom [(70, .goto 4, vi 74)] = true := by decide +kernel
theorem f_wx_Walk_endFrom_26_2 : mblkB b_Walk_endFrom [(26, .aload_n 1, vi 0), (27, .iload_n 2, vi 0)] = true := by decide +kernel
theorem e_wx_Walk_endFrom_28 : decode b_Walk_endFrom 28 = .ok (.putfield 31, 3) := by decide +kernel
theorem f_wx_Walk_endFrom_31_1 : mblkB b_Walk_endFrom [(31, .aload_n 1, vi 0)] = true := by decide +kernel
theorem e_wx_Walk_endFrom_32 : decode b_Walk_endFrom 32 = .ok (.getfield 24, 3) := by decide +kernel
theorem f_wx_Walk_endFrom_35_1 : mblkB b_Walk_endFrom [(35, .iload_n 2, vi 0)] = true := by decide +kernel
theorem e_wx_Walk_endFrom_36 : decode b_Walk_endFrom 36 = .ok (.invokevirtual 35, 3) := by decide +kernel
theorem f_wx_Walk_endFrom_39_5 : mblkB b_Walk_endFrom [(39, .aload_n 1, vi 0), (40, .aload_n 0, vi 0), (41, .aload_n 1, vi 0), (42, .iconst 0, vi 0), (43, .aload_n 1, vi 0)] = true := by decide +kernel
theorem e_wx_Walk_endFrom_44 : decode b_Walk_endFrom 44 = .ok (.getfield 39, 3) := by decide +kernel
theorem f_wx_Walk_endFrom_47_1 : mblkB b_Walk_endFrom [(47, .aload_n 1, vi 0)] = true := by decide +kernel
theorem e_wx_Walk_endFrom_48 : decode b_Walk_endFrom 48 = .ok (.getfield 24, 3) := by decide +kernel
theorem f_wx_Walk_endFrom_51_2 : mblkB b_Walk_endFrom [(51, .iconst (-1), vi (-1)), (52, .iconst 0, vi 0)] = true := by decide +kernel
theorem e_wx_Walk_endFrom_53 : decode b_Walk_endFrom 53 = .ok (.invokevirtual 42, 3) := by decide +kernel
theorem e_wx_Walk_endFrom_56 : decode b_Walk_endFrom 56 = .ok (.putfield 46, 3) := by decide +kernel
theorem f_wx_Walk_endFrom_7_1 : mblkB b_Walk_endFrom [(7, .aload_n 1, vi 0)] = true := by decide +kernel
theorem nb_wx_Walk_endFrom_11 : sblk b_Walk_endFrom [(11, .dup, .null)] := sblk_of (by decide +kernel)
theorem e_wx_Walk_endFrom_8 : decode b_Walk_endFrom 8 = .ok (.new 18, 3) := by decide +kernel
theorem e_wx_Walk_endFrom_12 : decode b_Walk_endFrom 12 = .ok (.invokespecial 30, 3) := by decide +kernel
theorem e_wx_Walk_endFrom_15 : decode b_Walk_endFrom 15 = .ok (.putfield 24, 3) := by decide +kernel
set_option maxHeartbeats 4000000 in
set_option maxRecDepth 20000 in
theorem wx_Walk_endFrom  : ∀ (l : Launch) (D : va_G) (B : Nat) (H0 : Heap) (G0 : tG) (k0 : Nat) (A : mA) (o : Nat) (a0 : Nat) (a1 : Int) (h_o : G0 o = some 7) (h_a0 : G0 a0 = some 2)  (Q : wQ), w_Walk_endFrom  k0 G0 A o a0 a1 Q → wMet l D B H0 G0 k0 y_Walk_endFrom b_Walk_endFrom 3 (some (.object "ChanceSteps$Crowd")) 463 15091 3 [vr 7 o, vr 2 a0, vi a1] A Q := by
  intro l D B H0 G0 k0 A o a0 a1 h_o h_a0 Q h
  refine w_met (by decide) rfl (fun g q0 C Rm Y E => ?_)
  show HM g D G0 q0 A 0 [(0, vr 7 o), (1, vr 2 a0), (2, vi a1)] []
  unfold w_Walk_endFrom at h
  refine h_blk 1 [(0, vr 7 o), (1, vr 2 a0), (2, vi a1)] [vr 2 a0] C f_wx_Walk_endFrom_0_1 rfl ?_
  refine w_getn C e_wx_Walk_endFrom_1 fg_Walk_24 h_a0 rfl rfl rfl rfl (fun c1 g2 => ?_) (fun c1 => ?_)
  · have h := wfp c1 h
    refine h_ifnonnull (tgt := 18) C e_wx_Walk_endFrom_4 (by decide) ?_
    refine h_blk 19 [(0, vr 7 o), (1, vr 2 a0), (2, vi a1)] [vr 2 a0] C f_wx_Walk_endFrom_18_1 rfl ?_
    refine h_geti C e_wx_Walk_endFrom_19 fg_Walk_31 h_a0 rfl rfl rfl (A 2 a0 14) rfl ?_
    refine h_blk 23 [(0, vr 7 o), (1, vr 2 a0), (2, vi a1)] [vi a1, vi (A 2 a0 14)] C f_wx_Walk_endFrom_22_1 rfl ?_
    obtain ⟨c3, h⟩ := wgd h
    obtain ⟨c4, h⟩ := wgd h
    refine h_icmp_eq (tgt := 59) C e_wx_Walk_endFrom_23 (by decide) c3 c4 (fun c5 => ?_) (fun c5 => ?_)
    · have h := wfp c5 h
      refine h_blk 60 [(0, vr 7 o), (1, vr 2 a0), (2, vi a1)] [vr 2 a0] C f_wx_Walk_endFrom_59_1 rfl ?_
      refine h_geti C e_wx_Walk_endFrom_60 fg_Walk_46 h_a0 rfl rfl rfl (A 2 a0 15) rfl ?_
      obtain ⟨c6, h⟩ := wgd h
      refine h_if_eq (tgt := 73) C e_wx_Walk_endFrom_63 (by decide) c6 (fun c7 => ?_) (fun c7 => ?_)
      · have h := wfp c7 h
        refine wn_anull C e_wx_Walk_endFrom_73 ?_
        exact wn_aret C Rm E (fun _ _ z => z) wb.rfl' e_wx_Walk_endFrom_74 h
      · have h := wfn c7 h
        refine h_blk 67 [(0, vr 7 o), (1, vr 2 a0), (2, vi a1)] [vr 2 a0] C f_wx_Walk_endFrom_66_1 rfl ?_
        refine h_getr5 C e_wx_Walk_endFrom_67 fg_Walk_24 h_a0 rfl rfl rfl rfl c1 (fun g8 => ?_)
        refine h_blk 74 [(0, vr 7 o), (1, vr 2 a0), (2, vi a1)] [vr 0 ((A 2 a0 13).toNat)] C f_wx_Walk_endFrom_70_1 rfl ?_
        exact w_aret C Rm E (fun _ _ z => z) wb.rfl' g8 e_wx_Walk_endFrom_74 h
    · have h := wfn c5 h
      refine h_blk 28 [(0, vr 7 o), (1, vr 2 a0), (2, vi a1)] [vi a1, vr 2 a0] C f_wx_Walk_endFrom_26_2 rfl ?_
      refine h_puti C e_wx_Walk_endFrom_28 fp_Walk_31 h_a0 rfl rfl rfl ?_
      refine h_blk 32 [(0, vr 7 o), (1, vr 2 a0), (2, vi a1)] [vr 2 a0] C f_wx_Walk_endFrom_31_1 rfl ?_
      refine h_getr5 C e_wx_Walk_endFrom_32 fg_Walk_24 h_a0 rfl rfl rfl rfl c1 (fun g9 => ?_)
      refine h_blk 36 [(0, vr 7 o), (1, vr 2 a0), (2, vi a1)] [vi a1, vr 0 ((A 2 a0 13).toNat)] C f_wx_Walk_endFrom_35_1 rfl ?_
      obtain ⟨q10, e11, h⟩ := h
      refine w_callV C Rm Y wb.rfl' [vi a1] [] (hx_Crowd_begin l D B H0 G0 _ ((A 2 a0 13).toNat) a1 g9 _ _ e11) cl_Walk_35 g9 rfl rfl rfl e_wx_Walk_endFrom_36 rfl rfl rfl ⟨by decide, by decide⟩ ?_
      rintro _ _ ⟨rfl, rfl⟩
      show HM g D G0 q0 q10.2 39 [(0, vr 7 o), (1, vr 2 a0), (2, vi a1)] []
      refine h_blk 44 [(0, vr 7 o), (1, vr 2 a0), (2, vi a1)] [vr 2 a0, vi 0, vr 2 a0, vr 7 o, vr 2 a0] C f_wx_Walk_endFrom_39_5 rfl ?_
      refine h_geti C e_wx_Walk_endFrom_44 fg_Walk_39 h_a0 rfl rfl rfl (q10.2 2 a0 1) rfl ?_
      refine h_blk 48 [(0, vr 7 o), (1, vr 2 a0), (2, vi a1)] [vr 2 a0, vi (q10.2 2 a0 1), vi 0, vr 2 a0, vr 7 o, vr 2 a0] C f_wx_Walk_endFrom_47_1 rfl ?_
      obtain ⟨c12, h⟩ := wgd h
      refine h_getr5 C e_wx_Walk_endFrom_48 fg_Walk_24 h_a0 rfl rfl rfl rfl c12 (fun g13 => ?_)
      refine h_blk 53 [(0, vr 7 o), (1, vr 2 a0), (2, vi a1)] [vi 0, vi (-1), vr 0 ((q10.2 2 a0 13).toNat), vi (q10.2 2 a0 1), vi 0, vr 2 a0, vr 7 o, vr 2 a0] C f_wx_Walk_endFrom_51_2 rfl ?_
      refine w_wV C Rm Y wb.rfl' [vr 2 a0, vi 0, vi (q10.2 2 a0 1), vr 0 ((q10.2 2 a0 13).toNat), vi (-1), vi 0] [vr 2 a0] (wx_Walk_walkBlock (wx_Walk_wsN 40) l D B H0 G0 k0 _ o a0 0 (q10.2 2 a0 1) ((q10.2 2 a0 13).toNat) (-1) 0 h_o h_a0 g13 _ h) cl_Walk_42 h_o rfl rfl rfl e_wx_Walk_endFrom_53 rfl rfl rfl ⟨by decide, by decide⟩ (fun r14 A15 G16 k17 q18 p19 y20 b21 => ?_)
      have h := p19
      refine wk1 ?_
      obtain ⟨c22, h⟩ := wgd h
      refine h_putz C e_wx_Walk_endFrom_56 fp_Walk_46 (y20 _ _ h_a0) rfl rfl rfl c22 ?_
      refine h_blk 60 [(0, vr 7 o), (1, vr 2 a0), (2, vi a1)] [vr 2 a0] C f_wx_Walk_endFrom_59_1 rfl ?_
      refine h_geti C e_wx_Walk_endFrom_60 fg_Walk_46 (y20 _ _ h_a0) rfl rfl rfl r14 (mu_at A15 2 a0 15 r14) ?_
      obtain ⟨c23, h⟩ := wgd h
      refine h_if_eq (tgt := 73) C e_wx_Walk_endFrom_63 (by decide) c23 (fun c24 => ?_) (fun c24 => ?_)
      · have h := wfp c24 h
        refine wn_anull C e_wx_Walk_endFrom_73 ?_
        exact wn_aret C Rm E (fun a τ z => y20 a τ ((fun _ _ z => z) a τ z)) b21 e_wx_Walk_endFrom_74 h
      · have h := wfn c24 h
        refine h_blk 67 [(0, vr 7 o), (1, vr 2 a0), (2, vi a1)] [vr 2 a0] C f_wx_Walk_endFrom_66_1 rfl ?_
        obtain ⟨c25, h⟩ := wgd h
        refine h_getr5 C e_wx_Walk_endFrom_67 fg_Walk_24 (y20 _ _ h_a0) rfl rfl rfl rfl c25 (fun g26 => ?_)
        refine h_blk 74 [(0, vr 7 o), (1, vr 2 a0), (2, vi a1)] [vr 0 ((A15 2 a0 13).toNat)] C f_wx_Walk_endFrom_70_1 rfl ?_
        exact w_aret C Rm E (fun a τ z => y20 a τ ((fun _ _ z => z) a τ z)) b21 g26 e_wx_Walk_endFrom_74 h
  · have h := wfn c1 h
    refine wn_ifnonnull C e_wx_Walk_endFrom_4 ?_
    refine h_blk 8 [(0, vr 7 o), (1, vr 2 a0), (2, vi a1)] [vr 2 a0] C f_wx_Walk_endFrom_7_1 rfl ?_
    obtain ⟨k27, e36, h⟩ := h
    refine w_new C Rm Y (wbE e36 wb.rfl') e_wx_Walk_endFrom_8 nw_Walk_18 nb_wx_Walk_endFrom_11 e_wx_Walk_endFrom_12 cl_Walk_30 rfl (by first | exact ⟨by decide, by decide⟩ | exact ⟨by omega, by omega⟩) (fun o28 o29 o30 q32 f31 b33 g34 => ?_)
    have h := h o28 o29 o30 f31
    have y35 := crG_go f31
    refine h_putr C e_wx_Walk_endFrom_15 fp_Walk_24 ⟨rfl, rfl⟩ (y35 _ _ h_a0) rfl rfl (Or.inr rfl) rfl g34 ?_
    refine h_blk 19 [(0, vr 7 o), (1, vr 2 a0), (2, vi a1)] [vr 2 a0] C f_wx_Walk_endFrom_18_1 rfl ?_
    refine h_geti C e_wx_Walk_endFrom_19 fg_Walk_31 (y35 _ _ h_a0) rfl rfl rfl ((crI A o28 o29 o30) 2 a0 14) rfl ?_
    refine h_blk 23 [(0, vr 7 o), (1, vr 2 a0), (2, vi a1)] [vi a1, vi ((crI A o28 o29 o30) 2 a0 14)] C f_wx_Walk_endFrom_22_1 rfl ?_
    obtain ⟨c37, h⟩ := wgd h
    obtain ⟨c38, h⟩ := wgd h
    refine h_icmp_eq (tgt := 59) C e_wx_Walk_endFrom_23 (by decide) c37 c38 (fun c39 => ?_) (fun c39 => ?_)
    · have h := wfp c39 h
      refine h_blk 60 [(0, vr 7 o), (1, vr 2 a0), (2, vi a1)] [vr 2 a0] C f_wx_Walk_endFrom_59_1 rfl ?_
      refine h_geti C e_wx_Walk_endFrom_60 fg_Walk_46 (y35 _ _ h_a0) rfl rfl rfl ((crI A o28 o29 o30) 2 a0 15) rfl ?_
      obtain ⟨c40, h⟩ := wgd h
      refine h_if_eq (tgt := 73) C e_wx_Walk_endFrom_63 (by decide) c40 (fun c41 => ?_) (fun c41 => ?_)
      · have h := wfp c41 h
        refine wn_anull C e_wx_Walk_endFrom_73 ?_
        exact wn_aret C Rm E (fun a τ z => y35 a τ ((fun _ _ z => z) a τ z)) b33 e_wx_Walk_endFrom_74 h
      · have h := wfn c41 h
        refine h_blk 67 [(0, vr 7 o), (1, vr 2 a0), (2, vi a1)] [vr 2 a0] C f_wx_Walk_endFrom_66_1 rfl ?_
        obtain ⟨c42, h⟩ := wgd h
        refine h_getr5 C e_wx_Walk_endFrom_67 fg_Walk_24 (y35 _ _ h_a0) rfl rfl rfl rfl c42 (fun g43 => ?_)
        refine h_blk 74 [(0, vr 7 o), (1, vr 2 a0), (2, vi a1)] [vr 0 (((mu (crI A o28 o29 o30) 2 a0 13 ((o28 : Nat) : Int)) 2 a0 13).toNat)] C f_wx_Walk_endFrom_70_1 rfl ?_
        exact w_aret C Rm E (fun a τ z => y35 a τ ((fun _ _ z => z) a τ z)) b33 g43 e_wx_Walk_endFrom_74 h
    · have h := wfn c39 h
      refine h_blk 28 [(0, vr 7 o), (1, vr 2 a0), (2, vi a1)] [vi a1, vr 2 a0] C f_wx_Walk_endFrom_26_2 rfl ?_
      refine h_puti C e_wx_Walk_endFrom_28 fp_Walk_31 (y35 _ _ h_a0) rfl rfl rfl ?_
      refine h_blk 32 [(0, vr 7 o), (1, vr 2 a0), (2, vi a1)] [vr 2 a0] C f_wx_Walk_endFrom_31_1 rfl ?_
      obtain ⟨c44, h⟩ := wgd h
      refine h_getr5 C e_wx_Walk_endFrom_32 fg_Walk_24 (y35 _ _ h_a0) rfl rfl rfl rfl c44 (fun g45 => ?_)
      refine h_blk 36 [(0, vr 7 o), (1, vr 2 a0), (2, vi a1)] [vi a1, vr 0 (((mu (crI A o28 o29 o30) 2 a0 13 ((o28 : Nat) : Int)) 2 a0 13).toNat)] C f_wx_Walk_endFrom_35_1 rfl ?_
      obtain ⟨q46, e47, h⟩ := h
      refine w_callV C Rm Y b33 [vi a1] [] (hx_Crowd_begin l D B H0 (crG G0 o28 o29 o30) _ (((mu (crI A o28 o29 o30) 2 a0 13 ((o28 : Nat) : Int)) 2 a0 13).toNat) a1 g45 _ _ e47) cl_Walk_35 g45 rfl rfl rfl e_wx_Walk_endFrom_36 rfl rfl rfl ⟨by decide, by decide⟩ ?_
      rintro _ _ ⟨rfl, rfl⟩
      show HM g D (crG G0 o28 o29 o30) q32 q46.2 39 [(0, vr 7 o), (1, vr 2 a0), (2, vi a1)] []
      refine h_blk 44 [(0, vr 7 o), (1, vr 2 a0), (2, vi a1)] [vr 2 a0, vi 0, vr 2 a0, vr 7 o, vr 2 a0] C f_wx_Walk_endFrom_39_5 rfl ?_
      refine h_geti C e_wx_Walk_endFrom_44 fg_Walk_39 (y35 _ _ h_a0) rfl rfl rfl (q46.2 2 a0 1) rfl ?_
      refine h_blk 48 [(0, vr 7 o), (1, vr 2 a0), (2, vi a1)] [vr 2 a0, vi (q46.2 2 a0 1), vi 0, vr 2 a0, vr 7 o, vr 2 a0] C f_wx_Walk_endFrom_47_1 rfl ?_
      obtain ⟨c48, h⟩ := wgd h
      refine h_getr5 C e_wx_Walk_endFrom_48 fg_Walk_24 (y35 _ _ h_a0) rfl rfl rfl rfl c48 (fun g49 => ?_)
      refine h_blk 53 [(0, vr 7 o), (1, vr 2 a0), (2, vi a1)] [vi 0, vi (-1), vr 0 ((q46.2 2 a0 13).toNat), vi (q46.2 2 a0 1), vi 0, vr 2 a0, vr 7 o, vr 2 a0] C f_wx_Walk_endFrom_51_2 rfl ?_
      refine w_wV C Rm Y b33 [vr 2 a0, vi 0, vi (q46.2 2 a0 1), vr 0 ((q46.2 2 a0 13).toNat), vi (-1), vi 0] [vr 2 a0] (wx_Walk_walkBlock (wx_Walk_wsN 40) l D B H0 (crG G0 o28 o29 o30) k27 _ o a0 0 (q46.2 2 a0 1) ((q46.2 2 a0 13).toNat) (-1) 0 (y35 _ _ h_o) (y35 _ _ h_a0) g49 _ h) cl_Walk_42 (y35 _ _ h_o) rfl rfl rfl e_wx_Walk_endFrom_53 rfl rfl rfl ⟨by decide, by decide⟩ (fun r50 A51 G52 k53 q54 p55 y56 b57 => ?_)
      have h := p55
      refine wk1 ?_
      obtain ⟨c58, h⟩ := wgd h
      refine h_putz C e_wx_Walk_endFrom_56 fp_Walk_46 (y56 _ _ (y35 _ _ h_a0)) rfl rfl rfl c58 ?_
      refine h_blk 60 [(0, vr 7 o), (1, vr 2 a0), (2, vi a1)] [vr 2 a0] C f_wx_Walk_endFrom_59_1 rfl ?_
      refine h_geti C e_wx_Walk_endFrom_60 fg_Walk_46 (y56 _ _ (y35 _ _ h_a0)) rfl rfl rfl r50 (mu_at A51 2 a0 15 r50) ?_
      obtain ⟨c59, h⟩ := wgd h
      refine h_if_eq (tgt := 73) C e_wx_Walk_endFrom_63 (by decide) c59 (fun c60 => ?_) (fun c60 => ?_)
      · have h := wfp c60 h
        refine wn_anull C e_wx_Walk_endFrom_73 ?_
        exact wn_aret C Rm E (fun a τ z => y56 a τ ((fun a τ z => y35 a τ ((fun _ _ z => z) a τ z)) a τ z)) b57 e_wx_Walk_endFrom_74 h
      · have h := wfn c60 h
        refine h_blk 67 [(0, vr 7 o), (1, vr 2 a0), (2, vi a1)] [vr 2 a0] C f_wx_Walk_endFrom_66_1 rfl ?_
        obtain ⟨c61, h⟩ := wgd h
        refine h_getr5 C e_wx_Walk_endFrom_67 fg_Walk_24 (y56 _ _ (y35 _ _ h_a0)) rfl rfl rfl rfl c61 (fun g62 => ?_)
        refine h_blk 74 [(0, vr 7 o), (1, vr 2 a0), (2, vi a1)] [vr 0 ((A51 2 a0 13).toNat)] C f_wx_Walk_endFrom_70_1 rfl ?_
        exact w_aret C Rm E (fun a τ z => y56 a τ ((fun a τ z => y35 a τ ((fun _ _ z => z) a τ z)) a τ z)) b57 g62 e_wx_Walk_endFrom_74 h

def w_Walk_mostAtOnce (k0 : Nat) (G0 : tG) (A : mA) (o : Nat) (a0 : Nat) (a1 : Int) (a2 : Int) (Q : wQ) : Prop := (if g32 a2 then (if a2 = (-1) then (w_Walk_endFrom k0 G0 A o a0 a1 (fun r31 A32 G33 k34 => (if 0 ≤ r31 then (Q (A32 0 r31.toNat 3) A32 G33 k34) else (Q (-6) A32 G33 k34)))) else (w_Walk_lend k0 G0 A o (fun r3 A4 G5 k6 => (if 0 ≤ r3 then (∃ q13, f_Prog_neededFrom A4 a0 0 (A4 2 a0 1) a2 = some q13 ∧ (∃ q15, f_CS_maskOf q13.2 q13.1 = some q15 ∧ (∃ q17, f_Crowd_begin q15.2 r3.toNat (iAnd a1 q15.1) = some q17 ∧ (w_Walk_walkBlock (w_Walk_wsN 40) k6 G5 q17.2 o a0 0 (q17.2 2 a0 1) r3.toNat a2 0 (fun r19 A20 G21 k22 => (∃ q27, f_Walk_giveBack A20 o = some q27 ∧ (if g32 r19 then (if r19 = 0 then (Q (-6) q27.2 G21 k22) else (Q (q27.2 0 r3.toNat 3) q27.2 G21 k22)) else False))))))) else (Q (-6) A4 G5 k6))))) else False)
theorem f_wx_Walk_mostAtOnce_0_2 : mblkB b_Walk_mostAtOnce [(0, .iload_n 3, vi 0), (1, .iconst (-1), vi (-1))] = true := by decide +kernel
theorem e_wx_Walk_mostAtOnce_2 : decode b_Walk_mostAtOnce 2 = .ok (.if_icmp .ne 27, 3) := by decide +kernel
theorem f_wx_Walk_mostAtOnce_29_1 : mblkB b_Walk_mostAtOnce [(29, .aload_n 0, vi 0)] = true := by decide +kernel
theorem e_wx_Walk_mostAtOnce_30 : decode b_Walk_mostAtOnce 30 = .ok (.invokevirtual 57, 3) := by decide +kernel
theorem f_wx_Walk_mostAtOnce_33_2 : mblkB b_Walk_mostAtOnce [(33, .astore 4, vi 0), (35, .aload 4, vi 0)] = true := by decide +kernel
theorem e_wx_Walk_mostAtOnce_37 : decode b_Walk_mostAtOnce 37 = .ok (.ifnonnull 6, 3) := by decide +kernel
theorem f_wx_Walk_mostAtOnce_43_5 : mblkB b_Walk_mostAtOnce [(43, .aload 4, vi 0), (45, .iload_n 2, vi 0), (46, .aload_n 1, vi 0), (47, .iconst 0, vi 0), (48, .aload_n 1, vi 0)] = true := by decide +kernel
theorem e_wx_Walk_mostAtOnce_49 : decode b_Walk_mostAtOnce 49 = .ok (.getfield 39, 3) := by decide +kernel
theorem f_wx_Walk_mostAtOnce_52_1 : mblkB b_Walk_mostAtOnce [(52, .iload_n 3, vi 0)] = true := by decide +kernel
theorem e_wx_Walk_mostAtOnce_53 : decode b_Walk_mostAtOnce 53 = .ok (.invokevirtual 61, 3) := by decide +kernel
theorem e_wx_Walk_mostAtOnce_56 : decode b_Walk_mostAtOnce 56 = .ok (.invokestatic 65, 3) := by decide +kernel
theorem f_wx_Walk_mostAtOnce_59_1 : mblkB b_Walk_mostAtOnce [(59, .iand, vi 0)] = true := by decide +kernel
theorem e_wx_Walk_mostAtOnce_60 : decode b_Walk_mostAtOnce 60 = .ok (.invokevirtual 35, 3) := by decide +kernel
theorem f_wx_Walk_mostAtOnce_63_4 : mblkB b_Walk_mostAtOnce [(63, .aload_n 0, vi 0), (64, .aload_n 1, vi 0), (65, .iconst 0, vi 0), (66, .aload_n 1, vi 0)] = true := by decide +kernel
theorem e_wx_Walk_mostAtOnce_67 : decode b_Walk_mostAtOnce 67 = .ok (.getfield 39, 3) := by decide +kernel
theorem f_wx_Walk_mostAtOnce_70_3 : mblkB b_Walk_mostAtOnce [(70, .aload 4, vi 0), (72, .iload_n 3, vi 0), (73, .iconst 0, vi 0)] = true := by decide +kernel
theorem e_wx_Walk_mostAtOnce_74 : decode b_Walk_mostAtOnce 74 = .ok (.invokevirtual 42, 3) := by decide +kernel
theorem f_wx_Walk_mostAtOnce_77_2 : mblkB b_Walk_mostAtOnce [(77, .istore 5, vi 0), (79, .aload_n 0, vi 0)] = true := by decide +kernel
theorem e_wx_Walk_mostAtOnce_80 : decode b_Walk_mostAtOnce 80 = .ok (.invokevirtual 69, 3) := by decide +kernel
theorem f_wx_Walk_mostAtOnce_83_1 : mblkB b_Walk_mostAtOnce [(83, .iload 5, vi 0)] = true := by decide +kernel
theorem e_wx_Walk_mostAtOnce_85 : decode b_Walk_mostAtOnce 85 = .ok (.ifCond .eq 11, 3) := by decide +kernel
theorem f_wx_Walk_mostAtOnce_96_1 : mblkB b_Walk_mostAtOnce [(96, .bipush (-6), vi (-6))] = true := by decide +kernel
theorem e_wx_Walk_mostAtOnce_98 : decode b_Walk_mostAtOnce 98 = .ok (.ireturn, 1) := by decide +kernel
theorem f_wx_Walk_mostAtOnce_88_1 : mblkB b_Walk_mostAtOnce [(88, .aload 4, vi 0)] = true := by decide +kernel
theorem e_wx_Walk_mostAtOnce_90 : decode b_Walk_mostAtOnce 90 = .ok (.getfield 54, 3) := by decide +kernel
theorem f_wx_Walk_mostAtOnce_93_1 : mblkB b_Walk_mostAtOnce [(93, .goto 5, vi 98)] = true := by decide +kernel
theorem f_wx_Walk_mostAtOnce_40_1 : mblkB b_Walk_mostAtOnce [(40, .bipush (-6), vi (-6))] = true := by decide +kernel
theorem e_wx_Walk_mostAtOnce_42 : decode b_Walk_mostAtOnce 42 = .ok (.ireturn, 1) := by decide +kernel
theorem f_wx_Walk_mostAtOnce_5_3 : mblkB b_Walk_mostAtOnce [(5, .aload_n 0, vi 0), (6, .aload_n 1, vi 0), (7, .iload_n 2, vi 0)] = true := by decide +kernel
theorem e_wx_Walk_mostAtOnce_8 : decode b_Walk_mostAtOnce 8 = .ok (.invokevirtual 50, 3) := by decide +kernel
theorem f_wx_Walk_mostAtOnce_11_2 : mblkB b_Walk_mostAtOnce [(11, .astore 4, vi 0), (13, .aload 4, vi 0)] = true := by decide +kernel
theorem e_wx_Walk_mostAtOnce_15 : decode b_Walk_mostAtOnce 15 = .ok (.ifnonnull 8, 3) := by decide +kernel
theorem f_wx_Walk_mostAtOnce_23_1 : mblkB b_Walk_mostAtOnce [(23, .aload 4, vi 0)] = true := by decide +kernel
theorem e_wx_Walk_mostAtOnce_25 : decode b_Walk_mostAtOnce 25 = .ok (.getfield 54, 3) := by decide +kernel
theorem e_wx_Walk_mostAtOnce_28 : decode b_Walk_mostAtOnce 28 = .ok (.ireturn, 1) := by decide +kernel
theorem f_wx_Walk_mostAtOnce_18_2 : mblkB b_Walk_mostAtOnce [(18, .bipush (-6), vi (-6)), (20, .goto 8, vi 28)] = true := by decide +kernel
set_option maxHeartbeats 4000000 in
set_option maxRecDepth 20000 in
theorem wx_Walk_mostAtOnce  : ∀ (l : Launch) (D : va_G) (B : Nat) (H0 : Heap) (G0 : tG) (k0 : Nat) (A : mA) (o : Nat) (a0 : Nat) (a1 : Int) (a2 : Int) (h_o : G0 o = some 7) (h_a0 : G0 a0 = some 2)  (Q : wQ), w_Walk_mostAtOnce  k0 G0 A o a0 a1 a2 Q → wMet l D B H0 G0 k0 y_Walk_mostAtOnce b_Walk_mostAtOnce 6 (some .int) 464 15113 1 [vr 7 o, vr 2 a0, vi a1, vi a2] A Q := by
  intro l D B H0 G0 k0 A o a0 a1 a2 h_o h_a0 Q h
  refine w_met (by decide) rfl (fun g q0 C Rm Y E => ?_)
  show HM g D G0 q0 A 0 [(0, vr 7 o), (1, vr 2 a0), (2, vi a1), (3, vi a2)] []
  unfold w_Walk_mostAtOnce at h
  refine h_blk 2 [(0, vr 7 o), (1, vr 2 a0), (2, vi a1), (3, vi a2)] [vi (-1), vi a2] C f_wx_Walk_mostAtOnce_0_2 rfl ?_
  obtain ⟨c1, h⟩ := wgd h
  refine h_icmp_ne (tgt := 29) C e_wx_Walk_mostAtOnce_2 (by decide) c1 (by decide) (fun c2 => ?_) (fun c2 => ?_)
  · have h := wfn c2 h
    refine h_blk 30 [(0, vr 7 o), (1, vr 2 a0), (2, vi a1), (3, vi a2)] [vr 7 o] C f_wx_Walk_mostAtOnce_29_1 rfl ?_
    refine w_wV C Rm Y wb.rfl' [] [] (wx_Walk_lend l D B H0 G0 k0 _ o h_o _ h) cl_Walk_57 h_o rfl rfl rfl e_wx_Walk_mostAtOnce_30 rfl rfl rfl ⟨by decide, by decide⟩ (fun r3 A4 G5 k6 q7 p8 y9 b10 => ?_)
    have h := p8
    refine wk3 (fun c11 g12 => ?_) (fun c11 => ?_)
    · have h := wfp c11 h
      refine h_blk 37 [(4, vr 0 r3.toNat), (0, vr 7 o), (1, vr 2 a0), (2, vi a1), (3, vi a2)] [vr 0 r3.toNat] C f_wx_Walk_mostAtOnce_33_2 rfl ?_
      refine h_ifnonnull (tgt := 43) C e_wx_Walk_mostAtOnce_37 (by decide) ?_
      refine h_blk 49 [(4, vr 0 r3.toNat), (0, vr 7 o), (1, vr 2 a0), (2, vi a1), (3, vi a2)] [vr 2 a0, vi 0, vr 2 a0, vi a1, vr 0 r3.toNat] C f_wx_Walk_mostAtOnce_43_5 rfl ?_
      refine h_geti C e_wx_Walk_mostAtOnce_49 fg_Walk_39 (y9 _ _ h_a0) rfl rfl rfl (A4 2 a0 1) rfl ?_
      refine h_blk 53 [(4, vr 0 r3.toNat), (0, vr 7 o), (1, vr 2 a0), (2, vi a1), (3, vi a2)] [vi a2, vi (A4 2 a0 1), vi 0, vr 2 a0, vi a1, vr 0 r3.toNat] C f_wx_Walk_mostAtOnce_52_1 rfl ?_
      obtain ⟨q13, e14, h⟩ := h
      refine w_callV C Rm Y b10 [vi 0, vi (A4 2 a0 1), vi a2] [vi a1, vr 0 r3.toNat] (hx_Prog_neededFrom l D B H0 G5 _ a0 0 (A4 2 a0 1) a2 (y9 _ _ h_a0) _ _ e14) cl_Walk_61 (y9 _ _ h_a0) rfl rfl rfl e_wx_Walk_mostAtOnce_53 rfl rfl rfl ⟨by decide, by decide⟩ ?_
      rintro _ _ ⟨rfl, rfl⟩
      show HM g D G5 q7 q13.2 56 [(4, vr 0 r3.toNat), (0, vr 7 o), (1, vr 2 a0), (2, vi a1), (3, vi a2)] [vi q13.1, vi a1, vr 0 r3.toNat]
      obtain ⟨q15, e16, h⟩ := h
      refine w_callSn C Rm Y b10 [vi q13.1] [vi a1, vr 0 r3.toNat] (hx_CS_maskOf l D B H0 G5 _ q13.1 _ _ e16) cl_Walk_65 e_wx_Walk_mostAtOnce_56 rfl rfl rfl ⟨by decide, by decide⟩ ?_
      rintro _ _ ⟨rfl, rfl⟩
      show HM g D G5 q7 q15.2 59 [(4, vr 0 r3.toNat), (0, vr 7 o), (1, vr 2 a0), (2, vi a1), (3, vi a2)] [vi q15.1, vi a1, vr 0 r3.toNat]
      refine h_blk 60 [(4, vr 0 r3.toNat), (0, vr 7 o), (1, vr 2 a0), (2, vi a1), (3, vi a2)] [vi (iAnd a1 q15.1), vr 0 r3.toNat] C f_wx_Walk_mostAtOnce_59_1 rfl ?_
      obtain ⟨q17, e18, h⟩ := h
      refine w_callV C Rm Y b10 [vi (iAnd a1 q15.1)] [] (hx_Crowd_begin l D B H0 G5 _ r3.toNat (iAnd a1 q15.1) g12 _ _ e18) cl_Walk_35 g12 rfl rfl rfl e_wx_Walk_mostAtOnce_60 rfl rfl rfl ⟨by decide, by decide⟩ ?_
      rintro _ _ ⟨rfl, rfl⟩
      show HM g D G5 q7 q17.2 63 [(4, vr 0 r3.toNat), (0, vr 7 o), (1, vr 2 a0), (2, vi a1), (3, vi a2)] []
      refine h_blk 67 [(4, vr 0 r3.toNat), (0, vr 7 o), (1, vr 2 a0), (2, vi a1), (3, vi a2)] [vr 2 a0, vi 0, vr 2 a0, vr 7 o] C f_wx_Walk_mostAtOnce_63_4 rfl ?_
      refine h_geti C e_wx_Walk_mostAtOnce_67 fg_Walk_39 (y9 _ _ h_a0) rfl rfl rfl (q17.2 2 a0 1) rfl ?_
      refine h_blk 74 [(4, vr 0 r3.toNat), (0, vr 7 o), (1, vr 2 a0), (2, vi a1), (3, vi a2)] [vi 0, vi a2, vr 0 r3.toNat, vi (q17.2 2 a0 1), vi 0, vr 2 a0, vr 7 o] C f_wx_Walk_mostAtOnce_70_3 rfl ?_
      refine w_wV C Rm Y b10 [vr 2 a0, vi 0, vi (q17.2 2 a0 1), vr 0 r3.toNat, vi a2, vi 0] [] (wx_Walk_walkBlock (wx_Walk_wsN 40) l D B H0 G5 k6 _ o a0 0 (q17.2 2 a0 1) r3.toNat a2 0 (y9 _ _ h_o) (y9 _ _ h_a0) g12 _ h) cl_Walk_42 (y9 _ _ h_o) rfl rfl rfl e_wx_Walk_mostAtOnce_74 rfl rfl rfl ⟨by decide, by decide⟩ (fun r19 A20 G21 k22 q23 p24 y25 b26 => ?_)
      have h := p24
      refine wk1 ?_
      refine h_blk 80 [(5, vi r19), (4, vr 0 r3.toNat), (0, vr 7 o), (1, vr 2 a0), (2, vi a1), (3, vi a2)] [vr 7 o] C f_wx_Walk_mostAtOnce_77_2 rfl ?_
      obtain ⟨q27, e28, h⟩ := h
      refine w_callV C Rm Y b26 [] [] (hx_Walk_giveBack l D B H0 G21 _ o (y25 _ _ (y9 _ _ h_o)) _ _ e28) cl_Walk_69 (y25 _ _ (y9 _ _ h_o)) rfl rfl rfl e_wx_Walk_mostAtOnce_80 rfl rfl rfl ⟨by decide, by decide⟩ ?_
      rintro _ _ ⟨rfl, rfl⟩
      show HM g D G21 q23 q27.2 83 [(5, vi r19), (4, vr 0 r3.toNat), (0, vr 7 o), (1, vr 2 a0), (2, vi a1), (3, vi a2)] []
      refine h_blk 85 [(5, vi r19), (4, vr 0 r3.toNat), (0, vr 7 o), (1, vr 2 a0), (2, vi a1), (3, vi a2)] [vi r19] C f_wx_Walk_mostAtOnce_83_1 rfl ?_
      obtain ⟨c29, h⟩ := wgd h
      refine h_if_eq (tgt := 96) C e_wx_Walk_mostAtOnce_85 (by decide) c29 (fun c30 => ?_) (fun c30 => ?_)
      · have h := wfp c30 h
        refine h_blk 98 [(5, vi r19), (4, vr 0 r3.toNat), (0, vr 7 o), (1, vr 2 a0), (2, vi a1), (3, vi a2)] [vi (-6)] C f_wx_Walk_mostAtOnce_96_1 rfl ?_
        exact w_iret C Rm E (fun a τ z => y25 a τ ((fun a τ z => y9 a τ ((fun _ _ z => z) a τ z)) a τ z)) b26 e_wx_Walk_mostAtOnce_98 h
      · have h := wfn c30 h
        refine h_blk 90 [(5, vi r19), (4, vr 0 r3.toNat), (0, vr 7 o), (1, vr 2 a0), (2, vi a1), (3, vi a2)] [vr 0 r3.toNat] C f_wx_Walk_mostAtOnce_88_1 rfl ?_
        refine h_geti C e_wx_Walk_mostAtOnce_90 fg_Walk_54 (y25 _ _ g12) rfl rfl rfl (q27.2 0 r3.toNat 3) rfl ?_
        refine h_blk 98 [(5, vi r19), (4, vr 0 r3.toNat), (0, vr 7 o), (1, vr 2 a0), (2, vi a1), (3, vi a2)] [vi (q27.2 0 r3.toNat 3)] C f_wx_Walk_mostAtOnce_93_1 rfl ?_
        exact w_iret C Rm E (fun a τ z => y25 a τ ((fun a τ z => y9 a τ ((fun _ _ z => z) a τ z)) a τ z)) b26 e_wx_Walk_mostAtOnce_98 h
    · have h := wfn (by omega)  h
      refine h_blk 37 [(4, vn), (0, vr 7 o), (1, vr 2 a0), (2, vi a1), (3, vi a2)] [vn] C f_wx_Walk_mostAtOnce_33_2 rfl ?_
      refine wn_ifnonnull C e_wx_Walk_mostAtOnce_37 ?_
      refine h_blk 42 [(4, vn), (0, vr 7 o), (1, vr 2 a0), (2, vi a1), (3, vi a2)] [vi (-6)] C f_wx_Walk_mostAtOnce_40_1 rfl ?_
      exact w_iret C Rm E (fun a τ z => y9 a τ ((fun _ _ z => z) a τ z)) b10 e_wx_Walk_mostAtOnce_42 h
  · have h := wfp c2 h
    refine h_blk 8 [(0, vr 7 o), (1, vr 2 a0), (2, vi a1), (3, vi a2)] [vi a1, vr 2 a0, vr 7 o] C f_wx_Walk_mostAtOnce_5_3 rfl ?_
    refine w_wV C Rm Y wb.rfl' [vr 2 a0, vi a1] [] (wx_Walk_endFrom l D B H0 G0 k0 _ o a0 a1 h_o h_a0 _ h) cl_Walk_50 h_o rfl rfl rfl e_wx_Walk_mostAtOnce_8 rfl rfl rfl ⟨by decide, by decide⟩ (fun r31 A32 G33 k34 q35 p36 y37 b38 => ?_)
    have h := p36
    refine wk3 (fun c39 g40 => ?_) (fun c39 => ?_)
    · have h := wfp c39 h
      refine h_blk 15 [(4, vr 0 r31.toNat), (0, vr 7 o), (1, vr 2 a0), (2, vi a1), (3, vi a2)] [vr 0 r31.toNat] C f_wx_Walk_mostAtOnce_11_2 rfl ?_
      refine h_ifnonnull (tgt := 23) C e_wx_Walk_mostAtOnce_15 (by decide) ?_
      refine h_blk 25 [(4, vr 0 r31.toNat), (0, vr 7 o), (1, vr 2 a0), (2, vi a1), (3, vi a2)] [vr 0 r31.toNat] C f_wx_Walk_mostAtOnce_23_1 rfl ?_
      refine h_geti C e_wx_Walk_mostAtOnce_25 fg_Walk_54 g40 rfl rfl rfl (A32 0 r31.toNat 3) rfl ?_
      exact w_iret C Rm E (fun a τ z => y37 a τ ((fun _ _ z => z) a τ z)) b38 e_wx_Walk_mostAtOnce_28 h
    · have h := wfn (by omega)  h
      refine h_blk 15 [(4, vn), (0, vr 7 o), (1, vr 2 a0), (2, vi a1), (3, vi a2)] [vn] C f_wx_Walk_mostAtOnce_11_2 rfl ?_
      refine wn_ifnonnull C e_wx_Walk_mostAtOnce_15 ?_
      refine h_blk 28 [(4, vn), (0, vr 7 o), (1, vr 2 a0), (2, vi a1), (3, vi a2)] [vi (-6)] C f_wx_Walk_mostAtOnce_18_2 rfl ?_
      exact w_iret C Rm E (fun a τ z => y37 a τ ((fun _ _ z => z) a τ z)) b38 e_wx_Walk_mostAtOnce_28 h

def w_CS_endOf (k0 : Nat) (G0 : tG) (A : mA) (o : Nat) (a0 : Int) (Q : wQ) : Prop := (if (0 ≤ a0 ∧ a0 < ((6 : Nat) : Int)) then (if 0 ≤ (A 21 ((A 8 o 2).toNat) a0.toNat) then (w_Walk_endFrom k0 G0 A ((A 8 o 10).toNat) ((A 21 ((A 8 o 2).toNat) a0.toNat).toNat) (A 8 o 4) (fun r6 A7 G8 k9 => (if 0 ≤ r6 then (Q ((r6.toNat : Nat) : Int) A7 G8 k9) else (Q (-1) A7 G8 k9)))) else False) else False)
theorem f_wx_CS_endOf_0_1 : mblkB b_CS_endOf [(0, .aload_n 0, vi 0)] = true := by decide +kernel
theorem e_wx_CS_endOf_1 : decode b_CS_endOf 1 = .ok (.getfield 35, 3) := by decide +kernel
theorem f_wx_CS_endOf_4_1 : mblkB b_CS_endOf [(4, .aload_n 0, vi 0)] = true := by decide +kernel
theorem e_wx_CS_endOf_5 : decode b_CS_endOf 5 = .ok (.getfield 15, 3) := by decide +kernel
theorem f_wx_CS_endOf_8_1 : mblkB b_CS_endOf [(8, .iload_n 1, vi 0)] = true := by decide +kernel
theorem e_wx_CS_endOf_9 : decode b_CS_endOf 9 = .ok (.aaload, 1) := by decide +kernel
theorem f_wx_CS_endOf_10_1 : mblkB b_CS_endOf [(10, .aload_n 0, vi 0)] = true := by decide +kernel
theorem e_wx_CS_endOf_11 : decode b_CS_endOf 11 = .ok (.getfield 83, 3) := by decide +kernel
theorem e_wx_CS_endOf_14 : decode b_CS_endOf 14 = .ok (.invokevirtual 255, 3) := by decide +kernel
theorem e_wx_CS_endOf_17 : decode b_CS_endOf 17 = .ok (.areturn, 1) := by decide +kernel
set_option maxHeartbeats 4000000 in
set_option maxRecDepth 20000 in
theorem wx_CS_endOf  : ∀ (l : Launch) (D : va_G) (B : Nat) (H0 : Heap) (G0 : tG) (k0 : Nat) (A : mA) (o : Nat) (a0 : Int) (h_o : G0 o = some 8)  (Q : wQ), w_CS_endOf  k0 G0 A o a0 Q → wMet l D B H0 G0 k0 y_CS_endOf b_CS_endOf 2 (some (.object "ChanceSteps$Crowd")) 464 15113 3 [vr 8 o, vi a0] A Q := by
  intro l D B H0 G0 k0 A o a0 h_o Q h
  refine w_met (by decide) rfl (fun g q0 C Rm Y E => ?_)
  show HM g D G0 q0 A 0 [(0, vr 8 o), (1, vi a0)] []
  unfold w_CS_endOf at h
  refine h_blk 1 [(0, vr 8 o), (1, vi a0)] [vr 8 o] C f_wx_CS_endOf_0_1 rfl ?_
  refine h_getr4 C e_wx_CS_endOf_1 fg_CS_35 h_o rfl rfl rfl rfl (fun g1 => ?_)
  refine h_blk 5 [(0, vr 8 o), (1, vi a0)] [vr 8 o, vr 7 ((A 8 o 10).toNat)] C f_wx_CS_endOf_4_1 rfl ?_
  refine h_getr4 C e_wx_CS_endOf_5 fg_CS_15 h_o rfl rfl rfl rfl (fun g2 => ?_)
  refine h_blk 9 [(0, vr 8 o), (1, vi a0)] [vi a0, vr 21 ((A 8 o 2).toNat), vr 7 ((A 8 o 10).toNat)] C f_wx_CS_endOf_8_1 rfl ?_
  obtain ⟨c3, h⟩ := wgd h
  obtain ⟨c4, h⟩ := wgd h
  refine h_aald5 C e_wx_CS_endOf_9 rfl rfl g2 rfl rfl rfl rfl (by decide) c3.1 c3.2 c4 (fun g5 => ?_)
  refine h_blk 11 [(0, vr 8 o), (1, vi a0)] [vr 8 o, vr 2 ((A 21 ((A 8 o 2).toNat) a0.toNat).toNat), vr 7 ((A 8 o 10).toNat)] C f_wx_CS_endOf_10_1 rfl ?_
  refine h_geti C e_wx_CS_endOf_11 fg_CS_83 h_o rfl rfl rfl (A 8 o 4) rfl ?_
  refine w_wV C Rm Y wb.rfl' [vr 2 ((A 21 ((A 8 o 2).toNat) a0.toNat).toNat), vi (A 8 o 4)] [] (wx_Walk_endFrom l D B H0 G0 k0 _ ((A 8 o 10).toNat) ((A 21 ((A 8 o 2).toNat) a0.toNat).toNat) (A 8 o 4) g1 g5 _ h) cl_CS_255 g1 rfl rfl rfl e_wx_CS_endOf_14 rfl rfl rfl ⟨by decide, by decide⟩ (fun r6 A7 G8 k9 q10 p11 y12 b13 => ?_)
  have h := p11
  refine wk3 (fun c14 g15 => ?_) (fun c14 => ?_)
  · have h := wfp c14 h
    exact w_aret C Rm E (fun a τ z => y12 a τ ((fun _ _ z => z) a τ z)) b13 g15 e_wx_CS_endOf_17 h
  · have h := wfn (by omega)  h
    exact wn_aret C Rm E (fun a τ z => y12 a τ ((fun _ _ z => z) a τ z)) b13 e_wx_CS_endOf_17 h

