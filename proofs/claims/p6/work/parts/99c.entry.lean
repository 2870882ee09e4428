/-! the law: its loop and its entry (own work, by program) -/
theorem k_law_18_2 : sblk code [(18, .iload_n 3, .null), (19, .aload_n 0, .null)] := sblk_of (by decide +kernel)
theorem d_law_20 : decode code 20 = .ok (.arraylength, 1) := by decide +kernel
theorem k_law_21_2 : sblk code [(21, .bipush 7, .int 7), (23, .isub, .null)] := sblk_of (by decide +kernel)
theorem d_law_24 : decode code 24 = .ok (.if_icmp .gt 1129, 3) := by decide +kernel
theorem k_law_1153_1 : sblk code [(1153, .iconst 1, .int 1)] := sblk_of (by decide +kernel)
theorem d_law_1154 : decode code 1154 = .ok (.ireturn, 1) := by decide +kernel
theorem k_law_27_2 : sblk code [(27, .aload_n 0, .null), (28, .iload_n 3, .null)] := sblk_of (by decide +kernel)
theorem d_law_29 : decode code 29 = .ok (.iaload, 1) := by decide +kernel
theorem k_law_30_2 : sblk code [(30, .bipush 31, .int 31), (32, .iand, .null)] := sblk_of (by decide +kernel)
theorem d_law_33 : decode code 33 = .ok (.tableswitch 1114 0 24 #[115, 190, 203, 236, 269, 312, 355, 388, 441, 484, 537, 570, 613, 646, 679, 712, 745, 820, 873, 916, 929, 942, 965, 1008, 1051], 115) := by decide +kernel
theorem k_law_1147_2 : sblk code [(1147, .iinc 3 7, .int 7), (1150, .goto (-1132), .retAddr 18)] := sblk_of (by decide +kernel)
theorem d_law_0 : decode code 0 = .ok (.new 7, 3) := by decide +kernel
theorem k_law_3_1 : sblk code [(3, .dup, .null)] := sblk_of (by decide +kernel)
theorem d_law_4 : decode code 4 = .ok (.invokespecial 9, 3) := by decide +kernel
theorem k_law_7_1 : sblk code [(7, .astore_n 1, .null)] := sblk_of (by decide +kernel)
theorem d_law_8 : decode code 8 = .ok (.new 10, 3) := by decide +kernel
theorem k_law_11_1 : sblk code [(11, .dup, .null)] := sblk_of (by decide +kernel)
theorem d_law_12 : decode code 12 = .ok (.invokespecial 12, 3) := by decide +kernel
theorem k_law_15_3 : sblk code [(15, .astore_n 2, .null), (16, .iconst 0, .int 0), (17, .istore_n 3, .null)] := sblk_of (by decide +kernel)
set_option maxHeartbeats 8000000 in
theorem law_loop {g : jG} {D : va_G} {b Ls : Nat} {xs : Nat → Int32} {x m : Nat} (E : lawE g D b Ls xs) (hL : Ls ≤ 3584) : ∀ (n i : Nat) (w : jW), i ≤ Ls → Ls < i + n → lawI D w x m → JJ g w 18 [(3, .int (nI i)), (2, .ref m), (1, .ref x), (0, .ref b)] [] := by
  obtain ⟨C, Rm, hX, hbl, -⟩ := id E
  intro n
  induction n with
  | zero => intro i w h1 h2; omega
  | succ n ih =>
    intro i w h1 h2 H
    refine j_blk 20 [(3, .int (nI i)), (2, .ref m), (1, .ref x), (0, .ref b)] [.ref b, .int (nI i)] C k_law_18_2 rfl ?_
    refine j_slen C hX hbl d_law_20 ?_
    refine j_blk 24 [(3, .int (nI i)), (2, .ref m), (1, .ref x), (0, .ref b)] [.int ((Int32.ofNat Ls) - 7), .int (nI i)] C k_law_21_2 rfl ?_
    refine j_icmp_gt (tgt := 1153) C d_law_24 (by decide) (fun c0 => ?_) (fun c0 => ?_)
    · refine j_blk 1154 [(3, .int (nI i)), (2, .ref m), (1, .ref x), (0, .ref b)] [.int 1] C k_law_1153_1 rfl ?_
      exact law_ret E d_law_1154 (law_fit H)
    · have hi := ls_le hL h1 c0
      refine j_blk 29 [(3, .int (nI i)), (2, .ref m), (1, .ref x), (0, .ref b)] [.int (nI i), .ref b] C k_law_27_2 rfl ?_
      refine j_sld C hX hbl i (nI_clampY (by omega)) (vp_in_nI (by omega) (by omega)) d_law_29 ?_
      refine j_blk 33 [(3, .int (nI i)), (2, .ref m), (1, .ref x), (0, .ref b)] [.int ((xs i) &&& 31)] C k_law_30_2 rfl ?_
      have fin : ∀ w9 : jW, lawI D w9 x m → JJ g w9 1147 [(3, .int (nI i)), (2, .ref m), (1, .ref x), (0, .ref b)] [] := fun w9 h9 => by
        refine j_blk 18 [(3, .int ((nI i) + 7)), (2, .ref m), (1, .ref x), (0, .ref b)] [] C k_law_1147_2 rfl ?_
        rw [show nI i + 7 = nI (i + 7) from nI_add i 7]
        exact ih (i + 7) w9 (by omega) (by omega) h9
      rcases tab25 ((xs i) &&& 31) with h | ⟨k, hk, hx⟩
      · refine j_tabOut (tgt := 1147) C d_law_33 h (by decide) ?_
        exact fin _ H
      · rw [hx]
        clear hx
        match k, hk with
        | 0, _ => exact j_tabIn (tgt := 148) C d_law_33 (by decide) (by decide) rfl (by decide) (lawc_0 E hL hi H fin)
        | 1, _ => exact j_tabIn (tgt := 223) C d_law_33 (by decide) (by decide) rfl (by decide) (lawc_1 E hL hi H fin)
        | 2, _ => exact j_tabIn (tgt := 236) C d_law_33 (by decide) (by decide) rfl (by decide) (lawc_2 E hL hi H fin)
        | 3, _ => exact j_tabIn (tgt := 269) C d_law_33 (by decide) (by decide) rfl (by decide) (lawc_3 E hL hi H fin)
        | 4, _ => exact j_tabIn (tgt := 302) C d_law_33 (by decide) (by decide) rfl (by decide) (lawc_4 E hL hi H fin)
        | 5, _ => exact j_tabIn (tgt := 345) C d_law_33 (by decide) (by decide) rfl (by decide) (lawc_5 E hL hi H fin)
        | 6, _ => exact j_tabIn (tgt := 388) C d_law_33 (by decide) (by decide) rfl (by decide) (lawc_6 E hL hi H fin)
        | 7, _ => exact j_tabIn (tgt := 421) C d_law_33 (by decide) (by decide) rfl (by decide) (lawc_7 E hL hi H fin)
        | 8, _ => exact j_tabIn (tgt := 474) C d_law_33 (by decide) (by decide) rfl (by decide) (lawc_8 E hL hi H fin)
        | 9, _ => exact j_tabIn (tgt := 517) C d_law_33 (by decide) (by decide) rfl (by decide) (lawc_9 E hL hi H fin)
        | 10, _ => exact j_tabIn (tgt := 570) C d_law_33 (by decide) (by decide) rfl (by decide) (lawc_10 E hL hi H fin)
        | 11, _ => exact j_tabIn (tgt := 603) C d_law_33 (by decide) (by decide) rfl (by decide) (lawc_11 E hL hi H fin)
        | 12, _ => exact j_tabIn (tgt := 646) C d_law_33 (by decide) (by decide) rfl (by decide) (lawc_12 E hL hi H fin)
        | 13, _ => exact j_tabIn (tgt := 679) C d_law_33 (by decide) (by decide) rfl (by decide) (lawc_13 E hL hi H fin)
        | 14, _ => exact j_tabIn (tgt := 712) C d_law_33 (by decide) (by decide) rfl (by decide) (lawc_14 E hL hi H fin)
        | 15, _ => exact j_tabIn (tgt := 745) C d_law_33 (by decide) (by decide) rfl (by decide) (lawc_15 E hL hi H fin)
        | 16, _ => exact j_tabIn (tgt := 778) C d_law_33 (by decide) (by decide) rfl (by decide) (lawc_16 E hL hi H fin)
        | 17, _ => exact j_tabIn (tgt := 853) C d_law_33 (by decide) (by decide) rfl (by decide) (lawc_17 E hL hi H fin)
        | 18, _ => exact j_tabIn (tgt := 906) C d_law_33 (by decide) (by decide) rfl (by decide) (lawc_18 E hL hi H fin)
        | 19, _ => exact j_tabIn (tgt := 949) C d_law_33 (by decide) (by decide) rfl (by decide) (lawc_19 E hL hi H fin)
        | 20, _ => exact j_tabIn (tgt := 962) C d_law_33 (by decide) (by decide) rfl (by decide) (lawc_20 E hL hi H fin)
        | 21, _ => exact j_tabIn (tgt := 975) C d_law_33 (by decide) (by decide) rfl (by decide) (lawc_21 E hL hi H fin)
        | 22, _ => exact j_tabIn (tgt := 998) C d_law_33 (by decide) (by decide) rfl (by decide) (lawc_22 E hL hi H fin)
        | 23, _ => exact j_tabIn (tgt := 1041) C d_law_33 (by decide) (by decide) rfl (by decide) (lawc_23 E hL hi H fin)
        | 24, _ => exact j_tabIn (tgt := 1084) C d_law_33 (by decide) (by decide) rfl (by decide) (lawc_24 E hL hi H fin)
        | k + 25, hk => exact absurd hk (by omega)
set_option maxHeartbeats 8000000 in
theorem law_entry {g : jG} {D : va_G} {b Ls : Nat} {xs : Nat → Int32} (hL : Ls ≤ 3584) (E : lawE g D b Ls xs) : JJ g ((fun _ => none, 0, 0) : jW) 0 [(0, .ref b)] [] := by
  obtain ⟨C, Rm, hX, hbl, -⟩ := id E
  have Y : jY g (jGl g) (jGB g) (jGH g) (jGy g) := ⟨rfl, rfl, rfl, rfl⟩
  refine j_new C Rm d_law_0 nw_Law_7 (Nat.le_of_ble_eq_true rfl) (Nat.le_of_ble_eq_true rfl) (fun x hf1 => ?_)
  refine jnv (fun w1 ew1 => ?_)
  have hx1 : w1.1 x = some (.inr (8, v0_8)) := jus ew1
  have hk1 : w1.2.1 = 1 ∧ w1.2.2 = 13 := by rw [ew1]; exact ⟨rfl, rfl⟩
  show JJ g w1 3 [(0, .ref b)] [.ref x]
  refine j_blk 4 [(0, .ref b)] [.ref x, .ref x] C k_law_3_1 rfl ?_
  refine j_callI C Rm Y [] [.ref x] (c_CS_init2 (jGl g) D (jGB g) (jGH g) w1 x v0_8 hx1) cl_Law_9 d_law_4 rfl rfl (Nat.le_of_ble_eq_true rfl) ⟨Nat.le_of_ble_eq_true rfl, Nat.le_of_ble_eq_true rfl⟩ ⟨by have := hk1.1; show _ ≤ 0 + 600000; omega, by have := hk1.2; show _ ≤ 0 + 7302250; omega⟩ (fun v1 w2 p1 => ?_)
  obtain ⟨rfl, hk2, G2, V9, tp, pg, sh, rd, wk, f1, f2, x1, c1, c2, c3, c4, sp, F, Vr, Vw, Vm, -, -, -, -, -, -, -, -, -, -, -, -, -, mo, hV0, hV1, hV2, hV3, hV4, hV5, hV6, hV7, hV8, hV9, hV10, hV11, hV12, m_tp, m_pg, m_sh, m_rd, m_f1, m_f2, hs, hr0, hr1, hr2, hr3, hr4, hr5, hr6, hr7, hr8, m_wk, hw0, hw1, hw2, hw3, m_x1, hm0, hm1, hm2, hm3_, hm4, m_c1, m_c2, m_c3, m_c4, m_sp⟩ := p1
  obtain ⟨s0, e0, V20, F0, m_s0, h0s0, h0s1, h0s2, m_e0, -⟩ := hs 0 (by decide)
  obtain ⟨s1, e1, V21, F1, m_s1, h1s0, h1s1, h1s2, m_e1, -⟩ := hs 1 (by decide)
  obtain ⟨s2, e2, V22, F2, m_s2, h2s0, h2s1, h2s2, m_e2, -⟩ := hs 2 (by decide)
  obtain ⟨s3, e3, V23, F3, m_s3, h3s0, h3s1, h3s2, m_e3, -⟩ := hs 3 (by decide)
  have m_x := mo
  show JJ g w2 7 [(0, .ref b)] [.ref x]
  refine j_blk 8 [(1, .ref x), (0, .ref b)] [] C k_law_7_1 rfl ?_
  refine j_new C Rm d_law_8 nw_Law_10 (by have := hk2.1; have := hk1.1; show _ ≤ 0 + 600000; omega) (by have := hk2.2; have := hk1.2; show _ ≤ 0 + 7302250; omega) (fun m hf2 => ?_)
  refine jnv (fun w3 ew3 => ?_)
  have hm3 : w3.1 m = some (.inr (10, v0_10)) := jus ew3
  have hk3 : w3.2.1 = w2.2.1 + 1 ∧ w3.2.2 = w2.2.2 + 43 := by rw [ew3]; exact ⟨rfl, rfl⟩
  show JJ g w3 11 [(1, .ref x), (0, .ref b)] [.ref m]
  refine j_blk 12 [(1, .ref x), (0, .ref b)] [.ref m, .ref m] C k_law_11_1 rfl ?_
  refine j_callI C Rm Y [] [.ref m] (c_Mo_init2 (jGl g) D (jGB g) (jGH g) w3 m v0_10 hm3) cl_Law_12 d_law_12 rfl rfl (Nat.le_of_ble_eq_true rfl) ⟨Nat.le_of_ble_eq_true rfl, Nat.le_of_ble_eq_true rfl⟩ ⟨by have := hk1.1; have := hk2.1; have := hk3.1; show _ ≤ 0 + 600000; omega, by have := hk1.2; have := hk2.2; have := hk3.2; show _ ≤ 0 + 7302250; omega⟩ (fun v2 w4 p2 => ?_)
  obtain ⟨rfl, hk4, G4, Vm9, bs, Fp, hK⟩ := p2
  obtain ⟨hmW, had, hmS, hfar⟩ := mo_world (D := D) hm3 hK
  have n_x := (G4 _ _ (jun ew3 m_x (Nat.ne_of_lt (hf2 _ _ m_x)))).1 (Nat.ne_of_lt (hf2 _ _ m_x))
  have b_x : x < m := hf2 _ _ m_x
  have n_tp := (G4 _ _ (jun ew3 m_tp (Nat.ne_of_lt (hf2 _ _ m_tp)))).1 (Nat.ne_of_lt (hf2 _ _ m_tp))
  have b_tp : tp < m := hf2 _ _ m_tp
  have n_pg := (G4 _ _ (jun ew3 m_pg (Nat.ne_of_lt (hf2 _ _ m_pg)))).1 (Nat.ne_of_lt (hf2 _ _ m_pg))
  have b_pg : pg < m := hf2 _ _ m_pg
  have n_sh := (G4 _ _ (jun ew3 m_sh (Nat.ne_of_lt (hf2 _ _ m_sh)))).1 (Nat.ne_of_lt (hf2 _ _ m_sh))
  have b_sh : sh < m := hf2 _ _ m_sh
  have n_rd := (G4 _ _ (jun ew3 m_rd (Nat.ne_of_lt (hf2 _ _ m_rd)))).1 (Nat.ne_of_lt (hf2 _ _ m_rd))
  have b_rd : rd < m := hf2 _ _ m_rd
  have n_wk := (G4 _ _ (jun ew3 m_wk (Nat.ne_of_lt (hf2 _ _ m_wk)))).1 (Nat.ne_of_lt (hf2 _ _ m_wk))
  have b_wk : wk < m := hf2 _ _ m_wk
  have n_f1 := (G4 _ _ (jun ew3 m_f1 (Nat.ne_of_lt (hf2 _ _ m_f1)))).1 (Nat.ne_of_lt (hf2 _ _ m_f1))
  have b_f1 : f1 < m := hf2 _ _ m_f1
  have n_f2 := (G4 _ _ (jun ew3 m_f2 (Nat.ne_of_lt (hf2 _ _ m_f2)))).1 (Nat.ne_of_lt (hf2 _ _ m_f2))
  have b_f2 : f2 < m := hf2 _ _ m_f2
  have n_x1 := (G4 _ _ (jun ew3 m_x1 (Nat.ne_of_lt (hf2 _ _ m_x1)))).1 (Nat.ne_of_lt (hf2 _ _ m_x1))
  have b_x1 : x1 < m := hf2 _ _ m_x1
  have n_c1 := (G4 _ _ (jun ew3 m_c1 (Nat.ne_of_lt (hf2 _ _ m_c1)))).1 (Nat.ne_of_lt (hf2 _ _ m_c1))
  have b_c1 : c1 < m := hf2 _ _ m_c1
  have n_c2 := (G4 _ _ (jun ew3 m_c2 (Nat.ne_of_lt (hf2 _ _ m_c2)))).1 (Nat.ne_of_lt (hf2 _ _ m_c2))
  have b_c2 : c2 < m := hf2 _ _ m_c2
  have n_c3 := (G4 _ _ (jun ew3 m_c3 (Nat.ne_of_lt (hf2 _ _ m_c3)))).1 (Nat.ne_of_lt (hf2 _ _ m_c3))
  have b_c3 : c3 < m := hf2 _ _ m_c3
  have n_c4 := (G4 _ _ (jun ew3 m_c4 (Nat.ne_of_lt (hf2 _ _ m_c4)))).1 (Nat.ne_of_lt (hf2 _ _ m_c4))
  have b_c4 : c4 < m := hf2 _ _ m_c4
  have n_sp := (G4 _ _ (jun ew3 m_sp (Nat.ne_of_lt (hf2 _ _ m_sp)))).1 (Nat.ne_of_lt (hf2 _ _ m_sp))
  have b_sp : sp < m := hf2 _ _ m_sp
  have n_s0 := (G4 _ _ (jun ew3 m_s0 (Nat.ne_of_lt (hf2 _ _ m_s0)))).1 (Nat.ne_of_lt (hf2 _ _ m_s0))
  have b_s0 : s0 < m := hf2 _ _ m_s0
  have n_e0 := (G4 _ _ (jun ew3 m_e0 (Nat.ne_of_lt (hf2 _ _ m_e0)))).1 (Nat.ne_of_lt (hf2 _ _ m_e0))
  have b_e0 : e0 < m := hf2 _ _ m_e0
  have n_s1 := (G4 _ _ (jun ew3 m_s1 (Nat.ne_of_lt (hf2 _ _ m_s1)))).1 (Nat.ne_of_lt (hf2 _ _ m_s1))
  have b_s1 : s1 < m := hf2 _ _ m_s1
  have n_e1 := (G4 _ _ (jun ew3 m_e1 (Nat.ne_of_lt (hf2 _ _ m_e1)))).1 (Nat.ne_of_lt (hf2 _ _ m_e1))
  have b_e1 : e1 < m := hf2 _ _ m_e1
  have n_s2 := (G4 _ _ (jun ew3 m_s2 (Nat.ne_of_lt (hf2 _ _ m_s2)))).1 (Nat.ne_of_lt (hf2 _ _ m_s2))
  have b_s2 : s2 < m := hf2 _ _ m_s2
  have n_e2 := (G4 _ _ (jun ew3 m_e2 (Nat.ne_of_lt (hf2 _ _ m_e2)))).1 (Nat.ne_of_lt (hf2 _ _ m_e2))
  have b_e2 : e2 < m := hf2 _ _ m_e2
  have n_s3 := (G4 _ _ (jun ew3 m_s3 (Nat.ne_of_lt (hf2 _ _ m_s3)))).1 (Nat.ne_of_lt (hf2 _ _ m_s3))
  have b_s3 : s3 < m := hf2 _ _ m_s3
  have n_e3 := (G4 _ _ (jun ew3 m_e3 (Nat.ne_of_lt (hf2 _ _ m_e3)))).1 (Nat.ne_of_lt (hf2 _ _ m_e3))
  have b_e3 : e3 < m := hf2 _ _ m_e3
  have hkc : w4.2.1 + 294 ≤ KC := by have := hk1.1; have := hk2.1; have := hk3.1; have := hk4.1; show _ ≤ 5000; omega
  have hks : w4.2.2 + 32218 ≤ KS := by have := hk1.2; have := hk2.2; have := hk3.2; have := hk4.2; show _ ≤ 500000; omega
  obtain ⟨hg, hW, hB⟩ := cs_typed n_x n_tp n_pg n_sh n_rd n_wk n_f1 n_f2 n_x1 n_c1 n_c2 n_c3 n_c4 n_sp n_s0 n_e0 n_s1 n_e1 n_s2 n_e2 n_s3 n_e3 hV0 hV1 hV2 hV3 hV4 hV5 hV6 hV7 hV8 hV9 hV10 hV11 hV12 hr0 hr1 hr2 hr3 hr4 hr5 hr6 hr7 hr8 hw0 hw1 hw2 hw3 hm0 hm1 hm2 hm3_ hm4 h0s0 h0s1 h0s2 h1s0 h1s1 h1s2 h2s0 h2s1 h2s2 h3s0 h3s1 h3s2 F0 F1 F2 F3 hkc hks
  have hI : lawI D w4 x m := by
    refine ⟨_, _, _, hread w4, ⟨hW, hB, hg _ (x, 8) List.mem_cons_self⟩, ⟨hmW, mA0_ty, mA0_mI, hmS, had⟩, fun f k hk => ?_, hW_read hW, R9_0 n_x n_tp n_pg hV0 hV1 hV2 hV3 hV4 hV5⟩
    cases e : gext (csN x tp pg sh rd wk f1 f2 x1 c1 c2 c3 c4 sp s0 e0 s1 e1 s2 e2 s3 e3) (fun _ => none) (mad m bs D f k) with
    | none => rfl
    | some τ =>
      exfalso
      rcases gext_cases e with ⟨p, hp, e9, -⟩ | ⟨-, h9⟩
      · have hlt : p.1 < m := by
          have hall : ∀ p ∈ csN x tp pg sh rd wk f1 f2 x1 c1 c2 c3 c4 sp s0 e0 s1 e1 s2 e2 s3 e3, p.1 < m := ((List.forall_mem_cons.mpr ⟨b_x, (List.forall_mem_cons.mpr ⟨b_tp, (List.forall_mem_cons.mpr ⟨b_pg, (List.forall_mem_cons.mpr ⟨b_sh, (List.forall_mem_cons.mpr ⟨b_rd, (List.forall_mem_cons.mpr ⟨b_wk, (List.forall_mem_cons.mpr ⟨b_f1, (List.forall_mem_cons.mpr ⟨b_f2, (List.forall_mem_cons.mpr ⟨b_x1, (List.forall_mem_cons.mpr ⟨b_c1, (List.forall_mem_cons.mpr ⟨b_c2, (List.forall_mem_cons.mpr ⟨b_c3, (List.forall_mem_cons.mpr ⟨b_c4, (List.forall_mem_cons.mpr ⟨b_sp, (List.forall_mem_cons.mpr ⟨b_s0, (List.forall_mem_cons.mpr ⟨b_e0, (List.forall_mem_cons.mpr ⟨b_s1, (List.forall_mem_cons.mpr ⟨b_e1, (List.forall_mem_cons.mpr ⟨b_s2, (List.forall_mem_cons.mpr ⟨b_e2, (List.forall_mem_cons.mpr ⟨b_s3, (List.forall_mem_cons.mpr ⟨b_e3, (fun _ h => absurd h List.not_mem_nil)⟩)⟩)⟩)⟩)⟩)⟩)⟩)⟩)⟩)⟩)⟩)⟩)⟩)⟩)⟩)⟩)⟩)⟩)⟩)⟩)⟩)⟩))
          exact hall p hp
        rcases hfar f k hk with q | q
        · omega
        · have := q _ _ hm3
          omega
      · cases h9
  show JJ g w4 15 [(1, .ref x), (0, .ref b)] [.ref m]
  refine j_blk 18 [(3, .int 0), (2, .ref m), (1, .ref x), (0, .ref b)] [] C k_law_15_3 rfl ?_
  exact law_loop E hL (Ls + 1) 0 w4 (Nat.zero_le _) (by omega) hI
theorem lw_in {w : Cond} (i : Nat) (h : lw_tbl[i]? = some w) : w ∈ lw_tbl := List.mem_of_getElem? h
theorem law_cls {s : State} {args : Array Value} (hts : ∀ w ∈ lw_tbl, w.before args s = true) : ∃ (dC : Nat → ClassId) (dI : Nat → Nat → Nat), ∀ (c : Nat) (q : vw_C), vwCl[c]? = some q → u_Kn s q.1 q.2.1 q.2.2 (dC c) (dI c) := by
  obtain ⟨c0, i0, k0⟩ := u_known (C := RX0) (T := TX0) (N := 4) (n := 4) hts (fun w hw => (List.mem_filter.mp (uw_0 w hw)).1) (hts (.instantiable RX0 4) (lw_in 697 (by decide +kernel)))
  obtain ⟨c1, i1, k1⟩ := u_known (C := RX1) (T := TX1) (N := 5) (n := 5) hts (fun w hw => (List.mem_filter.mp (uw_1 w hw)).1) (hts (.instantiable RX1 5) (lw_in 177 (by decide +kernel)))
  obtain ⟨c2, i2, k2⟩ := u_known (C := RX2) (T := TX2) (N := 16) (n := 16) hts (fun w hw => (List.mem_filter.mp (uw_2 w hw)).1) (hts (.instantiable RX2 16) (lw_in 287 (by decide +kernel)))
  obtain ⟨c3, i3, k3⟩ := u_known (C := RX3) (T := TX3) (N := 9) (n := 9) hts (fun w hw => (List.mem_filter.mp (uw_3 w hw)).1) (hts (.instantiable RX3 9) (lw_in 136 (by decide +kernel)))
  obtain ⟨c4, i4, k4⟩ := u_known (C := RX4) (T := TX4) (N := 3) (n := 3) hts (fun w hw => (List.mem_filter.mp (uw_4 w hw)).1) (hts (.instantiable RX4 3) (lw_in 295 (by decide +kernel)))
  obtain ⟨c5, i5, k5⟩ := u_known (C := RX5) (T := TX5) (N := 3) (n := 3) hts (fun w hw => (List.mem_filter.mp (uw_5 w hw)).1) (hts (.instantiable RX5 3) (lw_in 214 (by decide +kernel)))
  obtain ⟨c6, i6, k6⟩ := u_known (C := RX6) (T := TX6) (N := 14) (n := 14) hts (fun w hw => (List.mem_filter.mp (uw_6 w hw)).1) (hts (.instantiable RX6 14) (lw_in 310 (by decide +kernel)))
  obtain ⟨c7, i7, k7⟩ := u_known (C := RX7) (T := TX7) (N := 4) (n := 4) hts (fun w hw => (List.mem_filter.mp (uw_7 w hw)).1) (hts (.instantiable RX7 4) (lw_in 171 (by decide +kernel)))
  obtain ⟨c8, i8, k8⟩ := u_known (C := RX8) (T := TX8) (N := 13) (n := 13) hts (fun w hw => (List.mem_filter.mp (uw_8 w hw)).1) (hts (.instantiable RX8 13) (lw_in 124 (by decide +kernel)))
  obtain ⟨c9, i9, k9⟩ := u_known (C := RX9) (T := TX9) (N := 3) (n := 3) hts (fun w hw => (List.mem_filter.mp (uw_9 w hw)).1) (hts (.instantiable RX9 3) (lw_in 1107 (by decide +kernel)))
  obtain ⟨c10, i10, k10⟩ := u_known (C := RX10) (T := TX10) (N := 43) (n := 43) hts (fun w hw => (List.mem_filter.mp (uw_10 w hw)).1) (hts (.instantiable RX10 43) (lw_in 1093 (by decide +kernel)))
  refine ⟨(fun k => match k with | 0 => c0 | 1 => c1 | 2 => c2 | 3 => c3 | 4 => c4 | 5 => c5 | 6 => c6 | 7 => c7 | 8 => c8 | 9 => c9 | 10 => c10 | _ => c0), (fun k => match k with | 0 => i0 | 1 => i1 | 2 => i2 | 3 => i3 | 4 => i4 | 5 => i5 | 6 => i6 | 7 => i7 | 8 => i8 | 9 => i9 | 10 => i10 | _ => i0), ?_⟩
  intro c q hq
  match c, hq with
  | 0, hq => cases hq; exact k0
  | 1, hq => cases hq; exact k1
  | 2, hq => cases hq; exact k2
  | 3, hq => cases hq; exact k3
  | 4, hq => cases hq; exact k4
  | 5, hq => cases hq; exact k5
  | 6, hq => cases hq; exact k6
  | 7, hq => cases hq; exact k7
  | 8, hq => cases hq; exact k8
  | 9, hq => cases hq; exact k9
  | 10, hq => cases hq; exact k10
  | c + 11, hq => simp at hq
theorem law_arr {s : State} {args : Array Value} (hts : ∀ w ∈ lw_tbl, w.before args s = true) : ∃ dA : Nat → ClassId, ∀ (k : Nat) (ty : FieldType), jAT[k]? = some ty → jA s (dA k) ty := by
  obtain ⟨a0, k0, o0, p1_0, p2_0, p3_0⟩ := Cond.arrayClass_spec (hts (.arrayClass .int) (lw_in 169 (by decide +kernel)))
  have h0 : jA s a0 .int := ⟨k0, o0, p2_0, p3_0, p1_0, fun h => absurd h (by decide)⟩
  obtain ⟨a1, k1, o1, p1_1, p2_1, p3_1⟩ := Cond.arrayClass_spec (hts (.arrayClass .long) (lw_in 198 (by decide +kernel)))
  have h1 : jA s a1 .long := ⟨k1, o1, p2_1, p3_1, p1_1, fun h => absurd h (by decide)⟩
  obtain ⟨a2, k2, o2, p1_2, p2_2, p3_2⟩ := Cond.arrayClass_spec (hts (.arrayClass .boolean) (lw_in 1125 (by decide +kernel)))
  have h2 : jA s a2 .boolean := ⟨k2, o2, p2_2, p3_2, p1_2, fun h => absurd h (by decide)⟩
  obtain ⟨o3, a3, k3, p1_3, -, p2_3, p3_3, p4_3⟩ := arrayOverA_spec (hts (.arrayOver (.array .int)) (lw_in 1099 (by decide +kernel)))
  have h3 : jA s a3 (.array .int) := ⟨k3, o3, p2_3, p3_3, p4_3, fun _ => p1_3⟩
  obtain ⟨o4, a4, k4, p1_4, -, p2_4, p3_4, p4_4⟩ := arrayOverA_spec (hts (.arrayOver (.array .boolean)) (lw_in 1101 (by decide +kernel)))
  have h4 : jA s a4 (.array .boolean) := ⟨k4, o4, p2_4, p3_4, p4_4, fun _ => p1_4⟩
  obtain ⟨o5, a5, k5, p1_5, -, p2_5, p3_5, p4_5⟩ := arrayOverA_spec (hts (.arrayOver (.array .long)) (lw_in 1104 (by decide +kernel)))
  have h5 : jA s a5 (.array .long) := ⟨k5, o5, p2_5, p3_5, p4_5, fun _ => p1_5⟩
  obtain ⟨o6, a6, k6, p1_6, -, p2_6, p3_6, p4_6⟩ := arrayOverA_spec (hts (.arrayOver (.array (.array .long))) (lw_in 1103 (by decide +kernel)))
  have h6 : jA s a6 (.array (.array .long)) := ⟨k6, o6, p2_6, p3_6, p4_6, fun _ => p1_6⟩
  obtain ⟨o7, a7, k7, p1_7, -, p2_7, p3_7, p4_7⟩ := Cond.arrayOver_spec (hts (.arrayOver (.object "ChanceSteps$Crowd")) (lw_in 200 (by decide +kernel)))
  have h7 : jA s a7 (.object "ChanceSteps$Crowd") := ⟨k7, o7, p2_7, p3_7, p4_7, fun _ => p1_7⟩
  obtain ⟨o8, a8, k8, p1_8, -, p2_8, p3_8, p4_8⟩ := Cond.arrayOver_spec (hts (.arrayOver (.object "ChanceSteps$Program")) (lw_in 132 (by decide +kernel)))
  have h8 : jA s a8 (.object "ChanceSteps$Program") := ⟨k8, o8, p2_8, p3_8, p4_8, fun _ => p1_8⟩
  obtain ⟨o9, a9, k9, p1_9, -, p2_9, p3_9, p4_9⟩ := Cond.arrayOver_spec (hts (.arrayOver (.object "ChanceSteps$Sheet")) (lw_in 134 (by decide +kernel)))
  have h9 : jA s a9 (.object "ChanceSteps$Sheet") := ⟨k9, o9, p2_9, p3_9, p4_9, fun _ => p1_9⟩
  obtain ⟨o10, a10, k10, p1_10, -, p2_10, p3_10, p4_10⟩ := Cond.arrayOver_spec (hts (.arrayOver (.object "ChanceSteps$Step")) (lw_in 293 (by decide +kernel)))
  have h10 : jA s a10 (.object "ChanceSteps$Step") := ⟨k10, o10, p2_10, p3_10, p4_10, fun _ => p1_10⟩
  obtain ⟨o11, a11, k11, p1_11, -, p2_11, p3_11, p4_11⟩ := Cond.arrayOver_spec (hts (.arrayOver (.object "ChanceStepsModel$Odds")) (lw_in 1106 (by decide +kernel)))
  have h11 : jA s a11 (.object "ChanceStepsModel$Odds") := ⟨k11, o11, p2_11, p3_11, p4_11, fun _ => p1_11⟩
  refine ⟨(fun k => match k with | 0 => a0 | 1 => a1 | 2 => a2 | 3 => a3 | 4 => a4 | 5 => a5 | 6 => a6 | 7 => a7 | 8 => a8 | 9 => a9 | 10 => a10 | 11 => a11 | _ => a0), ?_⟩
  intro c q hq
  match c, hq with
  | 0, hq => cases hq; exact h0
  | 1, hq => cases hq; exact h1
  | 2, hq => cases hq; exact h2
  | 3, hq => cases hq; exact h3
  | 4, hq => cases hq; exact h4
  | 5, hq => cases hq; exact h5
  | 6, hq => cases hq; exact h6
  | 7, hq => cases hq; exact h7
  | 8, hq => cases hq; exact h8
  | 9, hq => cases hq; exact h9
  | 10, hq => cases hq; exact h10
  | 11, hq => cases hq; exact h11
  | c + 12, hq => simp [jAT] at hq
theorem law_K {s : State} {args : Array Value} (hts : ∀ w ∈ lw_tbl, w.before args s = true) : ∃ D : va_G, jK D s := by
  obtain ⟨dC, dI, h1⟩ := law_cls hts
  obtain ⟨dA, h2⟩ := law_arr hts
  refine ⟨(fun c => match Nat.ble 100 c with | true => dA (c - 100) | false => dC c, dI), fun c q hq => ?_, fun k ty hk => ?_, fun C hC => ?_, fun w hw => ?_⟩
  · have hlt : c < 11 := by
      have := (List.getElem?_eq_some_iff.mp hq).1
      simpa using this
    have hb : Nat.ble 100 c = false := by
      cases h : Nat.ble 100 c with
      | false => rfl
      | true => have := Nat.le_of_ble_eq_true h; omega
    have := h1 c q hq
    show u_Kn s q.1 q.2.1 q.2.2 (match Nat.ble 100 c with | true => dA (c - 100) | false => dC c) (dI c)
    rw [hb]
    exact this
  · have hb : Nat.ble 100 (100 + k) = true := Nat.ble_eq_true_of_le (by omega)
    show jA s (match Nat.ble 100 (100 + k) with | true => dA (100 + k - 100) | false => dC (100 + k)) ty
    rw [hb]
    show jA s (dA (100 + k - 100)) ty
    rw [show 100 + k - 100 = k by omega]
    exact h2 k ty hk
  · simp only [jAO, List.mem_cons, List.not_mem_nil, or_false] at hC
    rcases hC with rfl | rfl | rfl | rfl | rfl
    · exact va_AO.of (hts _ (lw_in 200 (by decide +kernel)))
    · exact va_AO.of (hts _ (lw_in 132 (by decide +kernel)))
    · exact va_AO.of (hts _ (lw_in 134 (by decide +kernel)))
    · exact va_AO.of (hts _ (lw_in 293 (by decide +kernel)))
    · exact va_AO.of (hts _ (lw_in 1106 (by decide +kernel)))
  · obtain ⟨h3, h4⟩ := List.mem_filter.mp hw
    cases w with
    | fieldLinkNest a i b n d h2 => exact va_Nw.of rfl (hts _ h3)
    | methodLinkNest a i x h2 => exact va_Nw.of rfl (hts _ h3)
    | _ => simp [jnw] at h4

/-- class numbers, String constants -/
theorem law_K2 {s : State} {args : Array Value} (hts : ∀ w ∈ lw_tbl, w.before args s = true) (h : jpre.before args s = true) : ∃ D : va_G, jK D s ∧ jS D s.heap.size s.heap s := by
  obtain ⟨D, h1, h2, h3, h4⟩ := law_K hts
  obtain ⟨K, V, k1, k2, k3, k4⟩ := law_S hts h
  have lo : ∀ c, c < 1000 → (match Nat.ble 1000 c with | true => (match Nat.ble 1100 c with | true => V (c - 1100) | false => K (c - 1000)) | false => D.1 c) = D.1 c := fun c hc => by
    have hb : Nat.ble 1000 c = false := by
      cases h : Nat.ble 1000 c with
      | false => rfl
      | true => have := Nat.le_of_ble_eq_true h; omega
    rw [hb]
  have e1 : ∀ i, i < 13 → (match Nat.ble 1000 (1000 + i) with | true => (match Nat.ble 1100 (1000 + i) with | true => V (1000 + i - 1100) | false => K (1000 + i - 1000)) | false => D.1 (1000 + i)) = K i := fun i hi => by
    have hb : Nat.ble 1000 (1000 + i) = true := Nat.ble_eq_true_of_le (by omega)
    have hb2 : Nat.ble 1100 (1000 + i) = false := by
      cases h : Nat.ble 1100 (1000 + i) with
      | false => rfl
      | true => have := Nat.le_of_ble_eq_true h; omega
    rw [hb, hb2]
    show K (1000 + i - 1000) = K i
    rw [show 1000 + i - 1000 = i by omega]
  have e2 : ∀ i, (match Nat.ble 1000 (1100 + i) with | true => (match Nat.ble 1100 (1100 + i) with | true => V (1100 + i - 1100) | false => K (1100 + i - 1000)) | false => D.1 (1100 + i)) = V i := fun i => by
    have hb : Nat.ble 1000 (1100 + i) = true := Nat.ble_eq_true_of_le (by omega)
    have hb2 : Nat.ble 1100 (1100 + i) = true := Nat.ble_eq_true_of_le (by omega)
    rw [hb, hb2]
    show V (1100 + i - 1100) = V i
    rw [show 1100 + i - 1100 = i by omega]
  refine ⟨((fun c => match Nat.ble 1000 c with | true => (match Nat.ble 1100 c with | true => V (c - 1100) | false => K (c - 1000)) | false => D.1 c), D.2), ⟨fun c q hq => ?_, fun k ty hk => ?_, h3, h4⟩, ⟨fun i hi => ?_, fun i q hq => ?_, k3, k4⟩⟩
  · have hlt : c < 11 := by
      have := (List.getElem?_eq_some_iff.mp hq).1
      simpa using this
    have := h1 c q hq
    rw [← lo c (by omega)] at this
    exact this
  · have hlt : k < 12 := by
      have := (List.getElem?_eq_some_iff.mp hk).1
      simpa [jAT] using this
    have := h2 k ty hk
    rw [← lo (100 + k) (by omega)] at this
    exact this
  · have := k1 i hi
    rw [← e1 i hi, ← e2 i] at this
    exact this
  · have hlt : i < 13 := by
      have := (List.getElem?_eq_some_iff.mp hq).1
      simpa [jstr] using this
    have := k2 i q hq
    rw [← e1 i hlt] at this
    exact this
