/-! the law: its entry (own work, by program) -/
theorem tab25 (x : Int32) : (x.toInt < 0 ∨ 24 < x.toInt) ∨ ∃ k, k < 25 ∧ x = nI k := by
  by_cases h : x.toInt < 0 ∨ 24 < x.toInt
  · exact Or.inl h
  · refine Or.inr ⟨x.toInt.toNat, by omega, Int32.toInt_inj.mp ?_⟩
    rw [nI_toInt (by omega)]; omega
theorem k_law_1151_2 : sblk code [(1151, .iinc 3 7, .int 7), (1154, .goto (-1136), .retAddr 18)] := sblk_of (by decide +kernel)
theorem k_law_18_2 : sblk code [(18, .iload_n 3, .null), (19, .aload_n 0, .null)] := sblk_of (by decide +kernel)
theorem d_law_20 : decode code 20 = .ok (.arraylength, 1) := by decide +kernel
theorem k_law_21_2 : sblk code [(21, .bipush 7, .int 7), (23, .isub, .null)] := sblk_of (by decide +kernel)
theorem d_law_24 : decode code 24 = .ok (.if_icmp .gt 1133, 3) := by decide +kernel
theorem k_law_1157_1 : sblk code [(1157, .iconst 1, .int 1)] := sblk_of (by decide +kernel)
theorem d_law_1158 : decode code 1158 = .ok (.ireturn, 1) := by decide +kernel
theorem d_law_0 : decode code 0 = .ok (.new 7, 3) := by decide +kernel
theorem k_law_3_1 : sblk code [(3, .dup, .null)] := sblk_of (by decide +kernel)
theorem d_law_4 : decode code 4 = .ok (.invokespecial 9, 3) := by decide +kernel
theorem k_law_7_1 : sblk code [(7, .astore_n 1, .null)] := sblk_of (by decide +kernel)
theorem d_law_8 : decode code 8 = .ok (.new 10, 3) := by decide +kernel
theorem k_law_11_1 : sblk code [(11, .dup, .null)] := sblk_of (by decide +kernel)
theorem d_law_12 : decode code 12 = .ok (.invokespecial 12, 3) := by decide +kernel
theorem k_law_15_5 : sblk code [(15, .astore_n 2, .null), (16, .iconst 0, .int 0), (17, .istore_n 3, .null), (18, .iload_n 3, .null), (19, .aload_n 0, .null)] := sblk_of (by decide +kernel)
theorem k_law_27_2 : sblk code [(27, .aload_n 0, .null), (28, .iload_n 3, .null)] := sblk_of (by decide +kernel)
theorem d_law_29 : decode code 29 = .ok (.iaload, 1) := by decide +kernel
theorem k_law_30_2 : sblk code [(30, .bipush 31, .int 31), (32, .iand, .null)] := sblk_of (by decide +kernel)
theorem d_law_33 : decode code 33 = .ok (.tableswitch 1118 0 24 #[115, 190, 203, 236, 269, 312, 355, 389, 443, 487, 541, 574, 617, 650, 683, 716, 749, 824, 877, 920, 933, 946, 969, 1012, 1055], 115) := by decide +kernel
theorem lawfin {g : jG} {D : va_G} {b : Nat} {xs : Nat → Int32} {w : jW} {x m : Nat} (E : lawE g D b 7 xs) (hc : w.2.1 ≤ 1000 ∧ w.2.2 ≤ 200000) : JJ g w 1151 [(3, .int 0), (2, .ref m), (1, .ref x), (0, .ref b)] [] := by
  obtain ⟨C, Rm, hX, hbl, -⟩ := id E
  refine j_blk 18 [(3, .int 7), (2, .ref m), (1, .ref x), (0, .ref b)] [] C k_law_1151_2 rfl ?_
  refine j_blk 20 [(3, .int 7), (2, .ref m), (1, .ref x), (0, .ref b)] [.ref b, .int 7] C k_law_18_2 rfl ?_
  refine j_slen C hX hbl d_law_20 ?_
  refine j_blk 24 [(3, .int 7), (2, .ref m), (1, .ref x), (0, .ref b)] [.int ((Int32.ofNat 7) - 7), .int 7] C k_law_21_2 rfl ?_
  refine j_icmp_gt (tgt := 1157) C d_law_24 (by decide) (fun c1 => ?_) (fun c1 => absurd (by decide) c1)
  refine j_blk 1158 [(3, .int 7), (2, .ref m), (1, .ref x), (0, .ref b)] [.int 1] C k_law_1157_1 rfl ?_
  exact law_ret E d_law_1158 ⟨Nat.le_trans hc.1 (by decide), Nat.le_trans hc.2 (by decide)⟩
set_option maxHeartbeats 8000000 in
theorem law_entry {g : jG} {D : va_G} {b Ls : Nat} {xs : Nat → Int32} (hL : Ls ≤ 7) (E : lawE g D b Ls xs) : JJ g ((fun _ => none, 0, 0) : jW) 0 [(0, .ref b)] [] := by
  obtain ⟨C, Rm, hX, hbl, -⟩ := id E
  have Y : jY g (jGl g) (jGB g) (jGH g) (jGy g) := ⟨rfl, rfl, rfl, rfl⟩
  refine j_new C Rm d_law_0 nw_Law_7 (Nat.le_of_ble_eq_true rfl) (Nat.le_of_ble_eq_true rfl) (fun x hf1 => ?_)
  refine jnv (fun w1 e1 => ?_)
  have hx1 : w1.1 x = some (.inr (8, v0_8)) := jus e1
  have hk1 : w1.2.1 = 1 ∧ w1.2.2 = 13 := by rw [e1]; exact ⟨rfl, rfl⟩
  show JJ g w1 3 [(0, .ref b)] [.ref x]
  refine j_blk 4 [(0, .ref b)] [.ref x, .ref x] C k_law_3_1 rfl ?_
  refine j_callI C Rm Y [] [.ref x] (c_CS_init (jGl g) D (jGB g) (jGH g) w1 x v0_8 hx1) cl_Law_9 d_law_4 rfl rfl (Nat.le_of_ble_eq_true rfl) ⟨Nat.le_of_ble_eq_true rfl, Nat.le_of_ble_eq_true rfl⟩ ⟨by have := hk1.1; show _ ≤ 0 + 600000; omega, by have := hk1.2; show _ ≤ 0 + 7302250; omega⟩ (fun v1 w2 p1 => ?_)
  obtain ⟨rfl, hk2, G2, V9, tp, pg, sh, rd, wk, f1, f2, F, Vr, -, -, -, -, -, -, -, mo, hV0, hV1, hV2, hV3, hV4, hV5, hV6, hV7, hV8, hV9, hV10, hV11, hV12, htp, hpg, hsh, hrd, -, -, hs⟩ := p1
  have X2 : lawX D w2 x (fun _ => True) := ⟨V9, tp, pg, sh, rd, F, Vr, mo, hV0, hV1, hV2, hV3, hV4, hV5, hV8, hV9, htp, hpg, hsh, hrd, ⟨trivial, trivial, trivial, trivial, trivial⟩, fun j hj => by obtain ⟨s, e, Vs, a1, a2, a3, a4, a5, a6, -⟩ := hs j hj; exact ⟨s, e, Vs, a1, a2, a3, a4, a5, a6, trivial, trivial⟩⟩
  show JJ g w2 7 [(0, .ref b)] [.ref x]
  refine j_blk 8 [(1, .ref x), (0, .ref b)] [] C k_law_7_1 rfl ?_
  refine j_new C Rm d_law_8 nw_Law_10 (by have := hk2.1; have := hk1.1; show _ ≤ 0 + 600000; omega) (by have := hk2.2; have := hk1.2; show _ ≤ 0 + 7302250; omega) (fun m hf2 => ?_)
  refine jnv (fun w3 e3 => ?_)
  have hm3 : w3.1 m = some (.inr (10, v0_10)) := jus e3
  have hk3 : w3.2.1 = w2.2.1 + 1 ∧ w3.2.2 = w2.2.2 + 43 := by rw [e3]; exact ⟨rfl, rfl⟩
  have X3 : lawX D w3 x (fun a => a < m) := X2.mono (fun a e ha _ => ⟨jun e3 ha (Nat.ne_of_lt (hf2 a e ha)), hf2 a e ha⟩)
  show JJ g w3 11 [(1, .ref x), (0, .ref b)] [.ref m]
  refine j_blk 12 [(1, .ref x), (0, .ref b)] [.ref m, .ref m] C k_law_11_1 rfl ?_
  refine j_callI C Rm Y [] [.ref m] (c_Mo_init (jGl g) D (jGB g) (jGH g) w3 m v0_10 hm3) cl_Law_12 d_law_12 rfl rfl (Nat.le_of_ble_eq_true rfl) ⟨Nat.le_of_ble_eq_true rfl, Nat.le_of_ble_eq_true rfl⟩ ⟨by have := hk1.1; have := hk2.1; have := hk3.1; show _ ≤ 0 + 600000; omega, by have := hk1.2; have := hk2.2; have := hk3.2; show _ ≤ 0 + 7302250; omega⟩ (fun v2 w4 p2 => ?_)
  obtain ⟨rfl, hk4, G4, V9, msizes, mbits, mturns, mkinds, mnames, mnumbers, mends, mothers, mtops, mfirstLots, mlotValues, mlotWeights, macts, mfigures, mfirsts, mseconds, mstart, misTold, misWideSo, mmade, mtape, mpool, mimageStart, msorts, mlengths, mitems, mpassed, fS, lt_msizes, lt_mbits, lt_mturns, lt_mkinds, lt_mnames, lt_mnumbers, lt_mends, lt_mothers, lt_mtops, lt_mfirstLots, lt_mlotValues, lt_mlotWeights, lt_macts, lt_mfigures, lt_mfirsts, lt_mseconds, lt_mstart, lt_misTold, lt_misWideSo, lt_mmade, lt_mtape, lt_mpool, lt_mimageStart, lt_msorts, lt_mlengths, lt_mitems, lt_mpassed, mo, hV0, hV1, hV2, hV3, hV4, hV5, hV6, hV7, hV8, hV9, hV10, hV11, hV12, hV13, hV14, hV15, hV16, hV17, hV18, hV19, hV20, hV21, hV22, hV23, hV24, hV25, hV26, hV27, hV28, hV29, hV30, hV31, hV32, hV33, hV34, hV35, hV36, hV37, hV38, hV39, hV40, hV41, hV42, htape, hstart, himg, hso, hfS, hln, hit, hrw, sl, si⟩ := p2
  have X4 : lawX D w4 x (fun a => a < m) := X3.mono (fun a e ha pa => ⟨(G4 a e ha).1 (Nat.ne_of_lt pa), pa⟩)
  have M4 : lawM D w4 m (fun a => m ≤ a) := ⟨V9, mstart, mtape, mimageStart, msorts, mlengths, mitems, fS, mo, hV0, hV17, hV21, hV22, hV37, hV38, hV39, hV40, hV41, hstart, htape, himg, hso, hfS, hln, hit, hrw, sl, si, Nat.le_refl m, Nat.le_of_lt (lt_mstart m _ hm3), Nat.le_of_lt (lt_mtape m _ hm3), Nat.le_of_lt (lt_mimageStart m _ hm3), Nat.le_of_lt (lt_msorts m _ hm3), Nat.le_of_lt (lt_mlengths m _ hm3), Nat.le_of_lt (lt_mitems m _ hm3), fun j hj => by have := lt_mitems m _ hm3; show m ≤ mitems + 1 + j; omega⟩
  have hc : w4.2.1 ≤ 810 ∧ w4.2.2 ≤ 129790 := ⟨by have := hk1.1; have := hk2.1; have := hk3.1; have := hk4.1; omega, by have := hk1.2; have := hk2.2; have := hk3.2; have := hk4.2; omega⟩
  show JJ g w4 15 [(1, .ref x), (0, .ref b)] [.ref m]
  refine j_blk 20 [(3, .int 0), (2, .ref m), (1, .ref x), (0, .ref b)] [.ref b, .int 0] C k_law_15_5 rfl ?_
  refine j_slen C hX hbl d_law_20 ?_
  refine j_blk 24 [(3, .int 0), (2, .ref m), (1, .ref x), (0, .ref b)] [.int ((Int32.ofNat Ls) - 7), .int 0] C k_law_21_2 rfl ?_
  rcases (by omega : Ls = 7 ∨ Ls = 0 ∨ Ls = 1 ∨ Ls = 2 ∨ Ls = 3 ∨ Ls = 4 ∨ Ls = 5 ∨ Ls = 6) with rfl | rfl | rfl | rfl | rfl | rfl | rfl | rfl
  · refine j_icmp_gt (tgt := 1157) C d_law_24 (by decide) (fun c0 => absurd c0 (by decide)) (fun c0 => ?_)
    refine j_blk 29 [(3, .int 0), (2, .ref m), (1, .ref x), (0, .ref b)] [.int 0, .ref b] C k_law_27_2 rfl ?_
    refine j_sld C hX hbl 0 (by decide) (jin (by decide) (by decide)) d_law_29 ?_
    refine j_blk 33 [(3, .int 0), (2, .ref m), (1, .ref x), (0, .ref b)] [.int ((xs 0) &&& 31)] C k_law_30_2 rfl ?_
    have fin : ∀ w9 : jW, w9.2.1 ≤ 1000 ∧ w9.2.2 ≤ 200000 → JJ g w9 1151 [(3, .int 0), (2, .ref m), (1, .ref x), (0, .ref b)] [] := fun w9 h9 => lawfin E h9
    rcases tab25 ((xs 0) &&& 31) with h | ⟨k, hk, hx⟩
    · refine j_tabOut (tgt := 1151) C d_law_33 h (by decide) ?_
      exact fin _ ⟨Nat.le_trans hc.1 (by decide), Nat.le_trans hc.2 (by decide)⟩
    · rw [hx]
      clear hx
      match k, hk with
      | 0, _ => exact j_tabIn (tgt := 148) C d_law_33 (by decide) (by decide) rfl (by decide) (lawc_0 E X4 M4 hc fin)
      | 1, _ => exact j_tabIn (tgt := 223) C d_law_33 (by decide) (by decide) rfl (by decide) (lawc_1 E X4 M4 hc fin)
      | 2, _ => exact j_tabIn (tgt := 236) C d_law_33 (by decide) (by decide) rfl (by decide) (lawc_2 E X4 M4 hc fin)
      | 3, _ => exact j_tabIn (tgt := 269) C d_law_33 (by decide) (by decide) rfl (by decide) (lawc_3 E X4 M4 hc fin)
      | 4, _ => exact j_tabIn (tgt := 302) C d_law_33 (by decide) (by decide) rfl (by decide) (lawc_4 E X4 M4 hc fin)
      | 5, _ => exact j_tabIn (tgt := 345) C d_law_33 (by decide) (by decide) rfl (by decide) (lawc_5 E X4 M4 hc fin)
      | 6, _ => exact j_tabIn (tgt := 388) C d_law_33 (by decide) (by decide) rfl (by decide) (lawc_6 E X4 M4 hc fin)
      | 7, _ => exact j_tabIn (tgt := 422) C d_law_33 (by decide) (by decide) rfl (by decide) (lawc_7 E X4 M4 hc fin)
      | 8, _ => exact j_tabIn (tgt := 476) C d_law_33 (by decide) (by decide) rfl (by decide) (lawc_8 E X4 M4 hc fin)
      | 9, _ => exact j_tabIn (tgt := 520) C d_law_33 (by decide) (by decide) rfl (by decide) (lawc_9 E X4 M4 hc fin)
      | 10, _ => exact j_tabIn (tgt := 574) C d_law_33 (by decide) (by decide) rfl (by decide) (lawc_10 E X4 M4 hc fin)
      | 11, _ => exact j_tabIn (tgt := 607) C d_law_33 (by decide) (by decide) rfl (by decide) (lawc_11 E X4 M4 hc fin)
      | 12, _ => exact j_tabIn (tgt := 650) C d_law_33 (by decide) (by decide) rfl (by decide) (lawc_12 E X4 M4 hc fin)
      | 13, _ => exact j_tabIn (tgt := 683) C d_law_33 (by decide) (by decide) rfl (by decide) (lawc_13 E X4 M4 hc fin)
      | 14, _ => exact j_tabIn (tgt := 716) C d_law_33 (by decide) (by decide) rfl (by decide) (lawc_14 E X4 M4 hc fin)
      | 15, _ => exact j_tabIn (tgt := 749) C d_law_33 (by decide) (by decide) rfl (by decide) (lawc_15 E X4 M4 hc fin)
      | 16, _ => exact j_tabIn (tgt := 782) C d_law_33 (by decide) (by decide) rfl (by decide) (lawc_16 E X4 M4 hc fin)
      | 17, _ => exact j_tabIn (tgt := 857) C d_law_33 (by decide) (by decide) rfl (by decide) (lawc_17 E X4 M4 hc fin)
      | 18, _ => exact j_tabIn (tgt := 910) C d_law_33 (by decide) (by decide) rfl (by decide) (lawc_18 E X4 M4 hc fin)
      | 19, _ => exact j_tabIn (tgt := 953) C d_law_33 (by decide) (by decide) rfl (by decide) (lawc_19 E X4 M4 hc fin)
      | 20, _ => exact j_tabIn (tgt := 966) C d_law_33 (by decide) (by decide) rfl (by decide) (lawc_20 E X4 M4 hc fin)
      | 21, _ => exact j_tabIn (tgt := 979) C d_law_33 (by decide) (by decide) rfl (by decide) (lawc_21 E X4 M4 hc fin)
      | 22, _ => exact j_tabIn (tgt := 1002) C d_law_33 (by decide) (by decide) rfl (by decide) (lawc_22 E X4 M4 hc fin)
      | 23, _ => exact j_tabIn (tgt := 1045) C d_law_33 (by decide) (by decide) rfl (by decide) (lawc_23 E X4 M4 hc fin)
      | 24, _ => exact j_tabIn (tgt := 1088) C d_law_33 (by decide) (by decide) rfl (by decide) (lawc_24 E X4 M4 hc fin)
      | k + 25, hk => exact absurd hk (by omega)
  · refine j_icmp_gt (tgt := 1157) C d_law_24 (by decide) (fun c0 => ?_) (fun c0 => absurd (by decide) c0)
    refine j_blk 1158 [(3, .int 0), (2, .ref m), (1, .ref x), (0, .ref b)] [.int 1] C k_law_1157_1 rfl ?_
    exact law_ret E d_law_1158 ⟨Nat.le_trans hc.1 (by decide), Nat.le_trans hc.2 (by decide)⟩
  · refine j_icmp_gt (tgt := 1157) C d_law_24 (by decide) (fun c0 => ?_) (fun c0 => absurd (by decide) c0)
    refine j_blk 1158 [(3, .int 0), (2, .ref m), (1, .ref x), (0, .ref b)] [.int 1] C k_law_1157_1 rfl ?_
    exact law_ret E d_law_1158 ⟨Nat.le_trans hc.1 (by decide), Nat.le_trans hc.2 (by decide)⟩
  · refine j_icmp_gt (tgt := 1157) C d_law_24 (by decide) (fun c0 => ?_) (fun c0 => absurd (by decide) c0)
    refine j_blk 1158 [(3, .int 0), (2, .ref m), (1, .ref x), (0, .ref b)] [.int 1] C k_law_1157_1 rfl ?_
    exact law_ret E d_law_1158 ⟨Nat.le_trans hc.1 (by decide), Nat.le_trans hc.2 (by decide)⟩
  · refine j_icmp_gt (tgt := 1157) C d_law_24 (by decide) (fun c0 => ?_) (fun c0 => absurd (by decide) c0)
    refine j_blk 1158 [(3, .int 0), (2, .ref m), (1, .ref x), (0, .ref b)] [.int 1] C k_law_1157_1 rfl ?_
    exact law_ret E d_law_1158 ⟨Nat.le_trans hc.1 (by decide), Nat.le_trans hc.2 (by decide)⟩
  · refine j_icmp_gt (tgt := 1157) C d_law_24 (by decide) (fun c0 => ?_) (fun c0 => absurd (by decide) c0)
    refine j_blk 1158 [(3, .int 0), (2, .ref m), (1, .ref x), (0, .ref b)] [.int 1] C k_law_1157_1 rfl ?_
    exact law_ret E d_law_1158 ⟨Nat.le_trans hc.1 (by decide), Nat.le_trans hc.2 (by decide)⟩
  · refine j_icmp_gt (tgt := 1157) C d_law_24 (by decide) (fun c0 => ?_) (fun c0 => absurd (by decide) c0)
    refine j_blk 1158 [(3, .int 0), (2, .ref m), (1, .ref x), (0, .ref b)] [.int 1] C k_law_1157_1 rfl ?_
    exact law_ret E d_law_1158 ⟨Nat.le_trans hc.1 (by decide), Nat.le_trans hc.2 (by decide)⟩
  · refine j_icmp_gt (tgt := 1157) C d_law_24 (by decide) (fun c0 => ?_) (fun c0 => absurd (by decide) c0)
    refine j_blk 1158 [(3, .int 0), (2, .ref m), (1, .ref x), (0, .ref b)] [.int 1] C k_law_1157_1 rfl ?_
    exact law_ret E d_law_1158 ⟨Nat.le_trans hc.1 (by decide), Nat.le_trans hc.2 (by decide)⟩
theorem lw_in {w : Cond} (i : Nat) (h : lw_tbl[i]? = some w) : w ∈ lw_tbl := List.mem_of_getElem? h
theorem law_cls {s : State} {args : Array Value} (hts : ∀ w ∈ lw_tbl, w.before args s = true) : ∃ (dC : Nat → ClassId) (dI : Nat → Nat → Nat), ∀ (c : Nat) (q : vw_C), vwCl[c]? = some q → u_Kn s q.1 q.2.1 q.2.2 (dC c) (dI c) := by
  obtain ⟨c0, i0, k0⟩ := u_known (C := RX0) (T := TX0) (N := 4) (n := 4) hts (fun w hw => (List.mem_filter.mp (uw_0 w hw)).1) (hts (.instantiable RX0 4) (lw_in 697 (by decide +kernel)))
  obtain ⟨c1, i1, k1⟩ := u_known (C := RX1) (T := TX1) (N := 5) (n := 5) hts (fun w hw => (List.mem_filter.mp (uw_1 w hw)).1) (hts (.instantiable RX1 5) (lw_in 177 (by decide +kernel)))
  obtain ⟨c2, i2, k2⟩ := u_known (C := RX2) (T := TX2) (N := 16) (n := 16) hts (fun w hw => (List.mem_filter.mp (uw_2 w hw)).1) (hts (.instantiable RX2 16) (lw_in 287 (by decide +kernel)))
  obtain ⟨c3, i3, k3⟩ := u_known (C := RX3) (T := TX3) (N := 9) (n := 9) hts (fun w hw => (List.mem_filter.mp (uw_3 w hw)).1) (hts (.instantiable RX3 9) (lw_in 136 (by decide +kernel)))
  obtain ⟨c4, i4, k4⟩ := u_known (C := RX4) (T := TX4) (N := 3) (n := 3) hts (fun w hw => (List.mem_filter.mp (uw_4 w hw)).1) (hts (.instantiable RX4 3) (lw_in 295 (by decide +kernel)))
  obtain ⟨c5, i5, k5⟩ := u_known (C := RX5) (T := TX5) (N := 3) (n := 3) hts (fun w hw => (List.mem_filter.mp (uw_5 w hw)).1) (hts (.instantiable RX5 3) (lw_in 214 (by decide +kernel)))
  obtain ⟨c6, i6, k6⟩ := u_known (C := RX6) (T := TX6) (N := 14) (n := 14) hts (fun w hw => (List.mem_filter.mp (uw_6 w hw)).1) (hts (.instantiable RX6 14) (lw_in 310 (by decide +kernel)))
  obtain ⟨c7, i7, k7⟩ := u_known (C := RX7) (T := TX7) (N := 4) (n := 4) hts (fun w hw => (List.mem_filter.mp (uw_7 w hw)).1) (hts (.instantiable RX7 4) (lw_in 171 (by decide +kernel)))
  obtain ⟨c8, i8, k8⟩ := u_known (C := RX8) (T := TX8) (N := 13) (n := 13) hts (fun w hw => (List.mem_filter.mp (uw_8 w hw)).1) (hts (.instantiable RX8 13) (lw_in 124 (by decide +kernel)))
  obtain ⟨c9, i9, k9⟩ := u_known (C := RX9) (T := TX9) (N := 3) (n := 3) hts (fun w hw => (List.mem_filter.mp (uw_9 w hw)).1) (hts (.instantiable RX9 3) (lw_in 1107 (by decide +kernel)))
  obtain ⟨c10, i10, k10⟩ := u_known (C := RX10) (T := TX10) (N := 43) (n := 43) hts (fun w hw => (List.mem_filter.mp (uw_10 w hw)).1) (hts (.instantiable RX10 43) (lw_in 1093 (by decide +kernel)))
  refine ⟨(fun k => match k with | 0 => c0 | 1 => c1 | 2 => c2 | 3 => c3 | 4 => c4 | 5 => c5 | 6 => c6 | 7 => c7 | 8 => c8 | 9 => c9 | 10 => c10 | _ => c0), (fun k => match k with | 0 => i0 | 1 => i1 | 2 => i2 | 3 => i3 | 4 => i4 | 5 => i5 | 6 => i6 | 7 => i7 | 8 => i8 | 9 => i9 | 10 => i10 | _ => i0), ?_⟩
  intro c q hq
  match c, hq with
  | 0, hq => cases hq; exact k0
  | 1, hq => cases hq; exact k1
  | 2, hq => cases hq; exact k2
  | 3, hq => cases hq; exact k3
  | 4, hq => cases hq; exact k4
  | 5, hq => cases hq; exact k5
  | 6, hq => cases hq; exact k6
  | 7, hq => cases hq; exact k7
  | 8, hq => cases hq; exact k8
  | 9, hq => cases hq; exact k9
  | 10, hq => cases hq; exact k10
  | c + 11, hq => simp at hq
theorem law_arr {s : State} {args : Array Value} (hts : ∀ w ∈ lw_tbl, w.before args s = true) : ∃ dA : Nat → ClassId, ∀ (k : Nat) (ty : FieldType), jAT[k]? = some ty → jA s (dA k) ty := by
  obtain ⟨a0, k0, o0, p1_0, p2_0, p3_0⟩ := Cond.arrayClass_spec (hts (.arrayClass .int) (lw_in 169 (by decide +kernel)))
  have h0 : jA s a0 .int := ⟨k0, o0, p2_0, p3_0, p1_0, fun h => absurd h (by decide)⟩
  obtain ⟨a1, k1, o1, p1_1, p2_1, p3_1⟩ := Cond.arrayClass_spec (hts (.arrayClass .long) (lw_in 198 (by decide +kernel)))
  have h1 : jA s a1 .long := ⟨k1, o1, p2_1, p3_1, p1_1, fun h => absurd h (by decide)⟩
  obtain ⟨a2, k2, o2, p1_2, p2_2, p3_2⟩ := Cond.arrayClass_spec (hts (.arrayClass .boolean) (lw_in 1125 (by decide +kernel)))
  have h2 : jA s a2 .boolean := ⟨k2, o2, p2_2, p3_2, p1_2, fun h => absurd h (by decide)⟩
  obtain ⟨o3, a3, k3, p1_3, -, p2_3, p3_3, p4_3⟩ := arrayOverA_spec (hts (.arrayOver (.array .int)) (lw_in 1099 (by decide +kernel)))
  have h3 : jA s a3 (.array .int) := ⟨k3, o3, p2_3, p3_3, p4_3, fun _ => p1_3⟩
  obtain ⟨o4, a4, k4, p1_4, -, p2_4, p3_4, p4_4⟩ := arrayOverA_spec (hts (.arrayOver (.array .boolean)) (lw_in 1101 (by decide +kernel)))
  have h4 : jA s a4 (.array .boolean) := ⟨k4, o4, p2_4, p3_4, p4_4, fun _ => p1_4⟩
  obtain ⟨o5, a5, k5, p1_5, -, p2_5, p3_5, p4_5⟩ := arrayOverA_spec (hts (.arrayOver (.array .long)) (lw_in 1104 (by decide +kernel)))
  have h5 : jA s a5 (.array .long) := ⟨k5, o5, p2_5, p3_5, p4_5, fun _ => p1_5⟩
  obtain ⟨o6, a6, k6, p1_6, -, p2_6, p3_6, p4_6⟩ := arrayOverA_spec (hts (.arrayOver (.array (.array .long))) (lw_in 1103 (by decide +kernel)))
  have h6 : jA s a6 (.array (.array .long)) := ⟨k6, o6, p2_6, p3_6, p4_6, fun _ => p1_6⟩
  obtain ⟨o7, a7, k7, p1_7, -, p2_7, p3_7, p4_7⟩ := Cond.arrayOver_spec (hts (.arrayOver (.object "ChanceSteps$Crowd")) (lw_in 200 (by decide +kernel)))
  have h7 : jA s a7 (.object "ChanceSteps$Crowd") := ⟨k7, o7, p2_7, p3_7, p4_7, fun _ => p1_7⟩
  obtain ⟨o8, a8, k8, p1_8, -, p2_8, p3_8, p4_8⟩ := Cond.arrayOver_spec (hts (.arrayOver (.object "ChanceSteps$Program")) (lw_in 132 (by decide +kernel)))
  have h8 : jA s a8 (.object "ChanceSteps$Program") := ⟨k8, o8, p2_8, p3_8, p4_8, fun _ => p1_8⟩
  obtain ⟨o9, a9, k9, p1_9, -, p2_9, p3_9, p4_9⟩ := Cond.arrayOver_spec (hts (.arrayOver (.object "ChanceSteps$Sheet")) (lw_in 134 (by decide +kernel)))
  have h9 : jA s a9 (.object "ChanceSteps$Sheet") := ⟨k9, o9, p2_9, p3_9, p4_9, fun _ => p1_9⟩
  obtain ⟨o10, a10, k10, p1_10, -, p2_10, p3_10, p4_10⟩ := Cond.arrayOver_spec (hts (.arrayOver (.object "ChanceSteps$Step")) (lw_in 293 (by decide +kernel)))
  have h10 : jA s a10 (.object "ChanceSteps$Step") := ⟨k10, o10, p2_10, p3_10, p4_10, fun _ => p1_10⟩
  obtain ⟨o11, a11, k11, p1_11, -, p2_11, p3_11, p4_11⟩ := Cond.arrayOver_spec (hts (.arrayOver (.object "ChanceStepsModel$Odds")) (lw_in 1106 (by decide +kernel)))
  have h11 : jA s a11 (.object "ChanceStepsModel$Odds") := ⟨k11, o11, p2_11, p3_11, p4_11, fun _ => p1_11⟩
  refine ⟨(fun k => match k with | 0 => a0 | 1 => a1 | 2 => a2 | 3 => a3 | 4 => a4 | 5 => a5 | 6 => a6 | 7 => a7 | 8 => a8 | 9 => a9 | 10 => a10 | 11 => a11 | _ => a0), ?_⟩
  intro c q hq
  match c, hq with
  | 0, hq => cases hq; exact h0
  | 1, hq => cases hq; exact h1
  | 2, hq => cases hq; exact h2
  | 3, hq => cases hq; exact h3
  | 4, hq => cases hq; exact h4
  | 5, hq => cases hq; exact h5
  | 6, hq => cases hq; exact h6
  | 7, hq => cases hq; exact h7
  | 8, hq => cases hq; exact h8
  | 9, hq => cases hq; exact h9
  | 10, hq => cases hq; exact h10
  | 11, hq => cases hq; exact h11
  | c + 12, hq => simp [jAT] at hq
theorem law_K {s : State} {args : Array Value} (hts : ∀ w ∈ lw_tbl, w.before args s = true) : ∃ D : va_G, jK D s := by
  obtain ⟨dC, dI, h1⟩ := law_cls hts
  obtain ⟨dA, h2⟩ := law_arr hts
  refine ⟨(fun c => match Nat.ble 100 c with | true => dA (c - 100) | false => dC c, dI), fun c q hq => ?_, fun k ty hk => ?_, fun C hC => ?_, fun w hw => ?_⟩
  · have hlt : c < 11 := by
      have := (List.getElem?_eq_some_iff.mp hq).1
      simpa using this
    have hb : Nat.ble 100 c = false := by
      cases h : Nat.ble 100 c with
      | false => rfl
      | true => have := Nat.le_of_ble_eq_true h; omega
    have := h1 c q hq
    show u_Kn s q.1 q.2.1 q.2.2 (match Nat.ble 100 c with | true => dA (c - 100) | false => dC c) (dI c)
    rw [hb]
    exact this
  · have hb : Nat.ble 100 (100 + k) = true := Nat.ble_eq_true_of_le (by omega)
    show jA s (match Nat.ble 100 (100 + k) with | true => dA (100 + k - 100) | false => dC (100 + k)) ty
    rw [hb]
    show jA s (dA (100 + k - 100)) ty
    rw [show 100 + k - 100 = k by omega]
    exact h2 k ty hk
  · simp only [jAO, List.mem_cons, List.not_mem_nil, or_false] at hC
    rcases hC with rfl | rfl | rfl | rfl | rfl
    · exact va_AO.of (hts _ (lw_in 200 (by decide +kernel)))
    · exact va_AO.of (hts _ (lw_in 132 (by decide +kernel)))
    · exact va_AO.of (hts _ (lw_in 134 (by decide +kernel)))
    · exact va_AO.of (hts _ (lw_in 293 (by decide +kernel)))
    · exact va_AO.of (hts _ (lw_in 1106 (by decide +kernel)))
  · obtain ⟨h3, h4⟩ := List.mem_filter.mp hw
    cases w with
    | fieldLinkNest a i b n d h2 => exact va_Nw.of rfl (hts _ h3)
    | methodLinkNest a i x h2 => exact va_Nw.of rfl (hts _ h3)
    | _ => simp [jnw] at h4
