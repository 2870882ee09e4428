/-! the reference: what a program makes of its start (own work, by program) -/
theorem q_made_ : ∀ n : Nat, S_make n ∧ S_makeStep n := fun n => by
  induction n with
  | zero =>
    have h : S_make 0 := q_make 0 (fun n1 h => absurd h (by omega))
    exact ⟨h, q_makeStep 0 h⟩
  | succ n ih =>
    have h : S_make (n + 1) := q_make (n + 1) (fun n1 h => by
      have : n1 = n := by omega
      rw [this]
      exact ih.2)
    exact ⟨h, q_makeStep (n + 1) h⟩
theorem f_q_oddsBeside_0_2 : mblkB b_Mo_oddsBeside [(0, .aload_n 0, vi 0), (1, .iconst 0, vi 0)] = true := by decide +kernel
theorem e_q_oddsBeside_2 : decode b_Mo_oddsBeside 2 = .ok (.putfield 297, 3) := by decide +kernel
theorem f_q_oddsBeside_5_2 : mblkB b_Mo_oddsBeside [(5, .aload_n 0, vi 0), (6, .iconst 1, vi 1)] = true := by decide +kernel
theorem e_q_oddsBeside_7 : decode b_Mo_oddsBeside 7 = .ok (.putfield 314, 3) := by decide +kernel
theorem f_q_oddsBeside_10_1 : mblkB b_Mo_oddsBeside [(10, .aload_n 0, vi 0)] = true := by decide +kernel
theorem e_q_oddsBeside_11 : decode b_Mo_oddsBeside 11 = .ok (.invokevirtual 275, 3) := by decide +kernel
theorem f_q_oddsBeside_14_3 : mblkB b_Mo_oddsBeside [(14, .astore_n 3, vi 0), (15, .aload_n 3, vi 0), (16, .aload_n 0, vi 0)] = true := by decide +kernel
theorem e_q_oddsBeside_17 : decode b_Mo_oddsBeside 17 = .ok (.invokevirtual 358, 3) := by decide +kernel
theorem e_q_oddsBeside_20 : decode b_Mo_oddsBeside 20 = .ok (.ldc2_w 340, 3) := by decide +kernel
theorem e_q_oddsBeside_23 : decode b_Mo_oddsBeside 23 = .ok (.invokevirtual 289, 3) := by decide +kernel
theorem f_q_oddsBeside_26_2 : mblkB b_Mo_oddsBeside [(26, .iload_n 2, vi 0), (27, .iconst (-1), vi (-1))] = true := by decide +kernel
theorem e_q_oddsBeside_28 : decode b_Mo_oddsBeside 28 = .ok (.if_icmp .eq 22, 3) := by decide +kernel
theorem f_q_oddsBeside_50_4 : mblkB b_Mo_oddsBeside [(50, .aload_n 0, vi 0), (51, .iload_n 1, vi 0), (52, .iconst 0, vi 0), (53, .aload_n 0, vi 0)] = true := by decide +kernel
theorem e_q_oddsBeside_54 : decode b_Mo_oddsBeside 54 = .ok (.getfield 9, 3) := by decide +kernel
theorem f_q_oddsBeside_57_1 : mblkB b_Mo_oddsBeside [(57, .iload_n 1, vi 0)] = true := by decide +kernel
theorem e_q_oddsBeside_58 : decode b_Mo_oddsBeside 58 = .ok (.iaload, 1) := by decide +kernel
theorem f_q_oddsBeside_59_2 : mblkB b_Mo_oddsBeside [(59, .aload_n 3, vi 0), (60, .iload_n 2, vi 0)] = true := by decide +kernel
theorem e_q_oddsBeside_61 : decode b_Mo_oddsBeside 61 = .ok (.invokevirtual 336, 3) := by decide +kernel
theorem e_q_oddsBeside_64 : decode b_Mo_oddsBeside 64 = .ok (.areturn, 1) := by decide +kernel
theorem f_q_oddsBeside_31_6 : mblkB b_Mo_oddsBeside [(31, .aload_n 0, vi 0), (32, .aload_n 3, vi 0), (33, .aload_n 0, vi 0), (34, .iload_n 1, vi 0), (35, .iconst 0, vi 0), (36, .aload_n 0, vi 0)] = true := by decide +kernel
theorem e_q_oddsBeside_37 : decode b_Mo_oddsBeside 37 = .ok (.getfield 9, 3) := by decide +kernel
theorem f_q_oddsBeside_40_1 : mblkB b_Mo_oddsBeside [(40, .iload_n 1, vi 0)] = true := by decide +kernel
theorem e_q_oddsBeside_41 : decode b_Mo_oddsBeside 41 = .ok (.iaload, 1) := by decide +kernel
theorem f_q_oddsBeside_42_1 : mblkB b_Mo_oddsBeside [(42, .iload_n 2, vi 0)] = true := by decide +kernel
theorem e_q_oddsBeside_43 : decode b_Mo_oddsBeside 43 = .ok (.invokevirtual 300, 3) := by decide +kernel
theorem e_q_oddsBeside_46 : decode b_Mo_oddsBeside 46 = .ok (.invokevirtual 310, 3) := by decide +kernel
theorem f_q_oddsBeside_49_5 : mblkB b_Mo_oddsBeside [(49, .astore_n 3, vi 0), (50, .aload_n 0, vi 0), (51, .iload_n 1, vi 0), (52, .iconst 0, vi 0), (53, .aload_n 0, vi 0)] = true := by decide +kernel
set_option maxHeartbeats 40000000 in
set_option maxRecDepth 100000 in
theorem q_oddsBeside (l : Launch) (D : va_G) (B : Nat) (H0 : Heap) (ad : mAd) (A : mA) (hT : mTy A) (u : Int) (p : Int) (w : Int) (hp : 0 ≤ p ∧ p ≤ 5) (ha : aOk A (p + 1)) (hu : A 0 0 33 = u ∧ 0 ≤ u ∧ u + (19 * p + 25) ≤ 200) (hw : -2147483648 ≤ w ∧ w ≤ 2147483647) (hS : mS A)  : mMet l D B H0 ad y_Mo_oddsBeside b_Mo_oddsBeside 4 (some (.object "ChanceStepsModel$Odds")) 903 23200 [vr 0 0, vi p, vi w] A (fun v9 A9 => ∃ z : Nat, v9 = some (vr 1 z) ∧ mTy A9 ∧ mEq (rm u.toNat) A A9 ∧ (u ≤ (z : Int) ∧ (z : Int) < A9 0 0 33) ∧ (A9 0 0 33 ≤ u + 24) ∧ (oG A9 z 1125899906842624) ∧ (mS A9)) := by
  refine m_met (by decide) rfl (fun g w0 C Rm Y E => ?_)
  have hE0 : mEq (rm u.toNat) A A := mEq.rfl'
  show JM g D ad w0 A 0 [(0, vr 0 0), (1, vi p), (2, vi w)] []
  obtain ⟨M, Ln, dep, hK⟩ := ha.at (p := p) (by omega) (by omega)
  obtain ⟨N, hN⟩ : ∃ x, A 5 0 p.toNat = x := ⟨_, rfl⟩
  rw [hN] at hK
  have hr9 := hK.rng
  refine m_blk 2 [(0, vr 0 0), (1, vi p), (2, vi w)] [vi 0, vr 0 0] C f_q_oddsBeside_0_2 rfl ?_
  refine m_putz C e_q_oddsBeside_2 fp_Mo_297 rfl (by decide) rfl (Or.inl rfl) ?_
  have t1 : mTy (mu A 0 0 34 0) := hT.mu (by show 0 ≤ 0 ∧ 0 ≤ 1; omega)
  have q2 := hE0.mu (f := 0) (k := 0) (j := 34) (z := 0) (by simp [rm])
  refine m_blk 7 [(0, vr 0 0), (1, vi p), (2, vi w)] [vi 1, vr 0 0] C f_q_oddsBeside_5_2 rfl ?_
  refine m_puti C e_q_oddsBeside_7 fp_Mo_314 rfl (by decide) rfl ?_
  have t3 : mTy (mu (mu A 0 0 34 0) 0 0 35 1) := t1.mu (by show (-2147483648) ≤ 1 ∧ 1 ≤ 2147483647; omega)
  have q4 := q2.mu (f := 0) (k := 0) (j := 35) (z := 1) (by simp [rm])
  refine m_blk 11 [(0, vr 0 0), (1, vi p), (2, vi w)] [vr 0 0] C f_q_oddsBeside_10_1 rfl ?_
  refine m_callV C Rm Y [] [] (q_taken l D B H0 ad _ t3 u (by show A 0 0 33 = u ∧ 0 ≤ u ∧ u ≤ 199; omega)) cl_Mo_275 rfl (by decide) rfl rfl e_q_oddsBeside_11 rfl rfl rfl ⟨by decide, by decide⟩ ?_
  rintro v5 A6 ⟨z9, rfl, hT_n8, hE_n8, raw_hz_n8, raw_hu_n8, raw_hm_n8⟩
  have hF_n8 := q4.trans (hE_n8.sub (tk_rm (by omega)))
  have hz_n8 : (z9 : Int) = u := raw_hz_n8
  clear raw_hz_n8
  have hu_n8 : A6 0 0 33 = u + 1 := raw_hu_n8
  clear raw_hu_n8
  have hm_n8 : A6 1 z9 2 = 0 := raw_hm_n8
  clear raw_hm_n8
  show JM g D ad w0 A6 14 [(0, vr 0 0), (1, vi p), (2, vi w)] [vr 1 z9]
  have ms_n8 : mS A6 := ((hS.muf (by decide)).muf (by decide)).tkk hE_n8
  have ku_n8 : A6 0 0 33 = u + 1 := hu_n8
  refine m_blk 17 [(3, vr 1 z9), (0, vr 0 0), (1, vi p), (2, vi w)] [vr 0 0, vr 1 z9] C f_q_oddsBeside_14_3 rfl ?_
  refine m_callV C Rm Y [] [vr 1 z9] (q_startState l D B H0 ad _ hT_n8) cl_Mo_358 rfl (by decide) rfl rfl e_q_oddsBeside_17 rfl rfl rfl ⟨by decide, by decide⟩ ?_
  rintro v10 A11 ⟨z14, rfl, rfl, raw_hz_n13⟩
  have hz_n13 : 0 ≤ z14 ∧ z14 ≤ 999999 ∧ z14 = ((((A6 8 0 0 * 10 + A6 8 0 1) * 10 + A6 8 0 2) * 10 + A6 8 0 3) * 10 + A6 8 0 4) * 10 + A6 8 0 5 := raw_hz_n13
  clear raw_hz_n13
  show JM g D ad w0 A6 20 [(3, vr 1 z9), (0, vr 0 0), (1, vi p), (2, vi w)] [vi z14, vr 1 z9]
  refine m_ldc2 C 1125899906842624 e_q_oddsBeside_20 ld_Mo_340 (by decide) ?_
  refine m_callV C Rm Y [vi z14, vl 1125899906842624] [] (q_come l D B H0 ad _ hT_n8 z9 0 z14 1125899906842624 (by show z9 < 200; omega) (oG.nil hm_n8) (by show 0 ≤ z14 ∧ z14 ≤ 9999999; omega) (by show 0 ≤ 1125899906842624 ∧ 0 ≤ 0 ∧ 0 + 1125899906842624 ≤ 1125899906842624; omega)) cl_Mo_289 rfl (by omega) rfl rfl e_q_oddsBeside_23 rfl rfl rfl ⟨by decide, by decide⟩ ?_
  rintro v15 A16 ⟨rfl, hT_n18, hE_n18, raw_hO_n18⟩
  have hF_n18 := hF_n8.trans (hE_n18.sub (cm_rm (by omega)))
  have hO_n18 : oG A16 z9 (0 + 1125899906842624) := raw_hO_n18
  clear raw_hO_n18
  show JM g D ad w0 A16 26 [(3, vr 1 z9), (0, vr 0 0), (1, vi p), (2, vi w)] []
  have ms_n18 : mS A16 := ms_n8.cmk hE_n18
  have ku_n18 : A16 0 0 33 = u + 1 := (hE_n18 0 0 33 rfl).trans ku_n8
  have ob_n18 : oG A16 z9 1125899906842624 := hO_n18.le (by omega)
  refine m_blk 28 [(3, vr 1 z9), (0, vr 0 0), (1, vi p), (2, vi w)] [vi (-1), vi w] C f_q_oddsBeside_26_2 rfl ?_
  refine m_icmp_eq (tgt := 50) C e_q_oddsBeside_28 (by decide) (by omega) (by decide) (fun c19 => ?_) (fun c19 => ?_)
  · refine m_blk 54 [(3, vr 1 z9), (0, vr 0 0), (1, vi p), (2, vi w)] [vr 0 0, vi 0, vi p, vr 0 0] C f_q_oddsBeside_50_4 rfl ?_
    refine m_getr C e_q_oddsBeside_54 fg_Mo_9 rfl (by decide) rfl ?_
    refine m_blk 58 [(3, vr 1 z9), (0, vr 0 0), (1, vi p), (2, vi w)] [vi p, vr 5 0, vi 0, vi p, vr 0 0] C f_q_oddsBeside_57_1 rfl ?_
    obtain ⟨x20, hx20⟩ : ∃ x, A16 5 0 p.toNat = x := ⟨_, rfl⟩
    have rx20 : 0 ≤ x20 ∧ x20 ≤ 16 := mrg hT_n18 hx20 rfl
    have eNx20 : x20 = N := hx20.symm.trans ((hF_n18 5 0 p.toNat (rm_far (by decide) (by decide) _)).trans hN)
    refine m_iald C e_q_oddsBeside_58 rfl (by decide) (by decide) (by omega) (by show p < ((6 : Nat) : Int); omega) x20 hx20 ?_
    refine m_blk 61 [(3, vr 1 z9), (0, vr 0 0), (1, vi p), (2, vi w)] [vi w, vr 1 z9, vi x20, vi 0, vi p, vr 0 0] C f_q_oddsBeside_59_2 rfl ?_
    refine m_callV C Rm Y [vi p, vi 0, vi x20, vr 1 z9, vi w] [] ((q_made_ 117).1 l D B H0 ad _ hT_n18 (u + 1) 1125899906842624 N M Ln dep 0 p 0 x20 z9 w (by show 0 ≤ p ∧ p ≤ 5; omega) (hK.rmk hF_n18) ((ha.rmk hF_n18).le (by omega)) (by show 0 ≤ 0 ∧ 0 ≤ 16 ∧ 0 ≤ x20 ∧ x20 ≤ N ∧ 20 * p + 17 - 0 ≤ ((117 : Nat) : Int); omega) (hK.dQ0 (by omega)) (by show A16 0 0 33 = (u + 1) ∧ 0 ≤ (u + 1) ∧ (u + 1) + (19 * p + 23 - 4 * 0) ≤ 200 ∧ 0 ≤ 0 ∧ 0 ≤ 5; omega) (by show (z9 : Int) < (u + 1); omega) ob_n18 (by show 0 ≤ 1125899906842624 ∧ 1125899906842624 ≤ 1125899906842624; omega) (by show -2147483648 ≤ w ∧ w ≤ 2147483647; omega) ms_n18) cl_Mo_336 rfl (by decide) rfl rfl e_q_oddsBeside_61 rfl rfl rfl ⟨by decide, by decide⟩ ?_
    rintro v21 A22 ⟨z25, rfl, hT_n24, hE_n24, raw_hz_n24, raw_hu_n24, raw_hx_n24, raw_hO_n24, raw_hS_n24⟩
    have hF_n24 := hF_n18.trans (hE_n24.sub (rm_rm (by omega)))
    have hz_n24 : (z25 : Int) = (u + 1) := raw_hz_n24
    clear raw_hz_n24
    have hu_n24 : (u + 1) + 1 ≤ A22 0 0 33 ∧ A22 0 0 33 ≤ (u + 1) + 2 + 4 * (5 - 0) := raw_hu_n24
    clear raw_hu_n24
    have hx_n24 : xQ A22 ((u + 1) + 1) := raw_hx_n24
    clear raw_hx_n24
    have hO_n24 : oG A22 z25 1125899906842624 := raw_hO_n24
    clear raw_hO_n24
    have hS_n24 : mS A22 := raw_hS_n24
    clear raw_hS_n24
    show JM g D ad w0 A22 64 [(3, vr 1 z9), (0, vr 0 0), (1, vi p), (2, vi w)] [vr 1 z25]
    exact m_aret C Rm E e_q_oddsBeside_64 ⟨z25, rfl, hT_n24, hF_n24, (by show u ≤ (z25 : Int) ∧ (z25 : Int) < A22 0 0 33; omega), (by show A22 0 0 33 ≤ u + 24; omega), hO_n24, hS_n24⟩
  · refine m_blk 37 [(3, vr 1 z9), (0, vr 0 0), (1, vi p), (2, vi w)] [vr 0 0, vi 0, vi p, vr 0 0, vr 1 z9, vr 0 0] C f_q_oddsBeside_31_6 rfl ?_
    refine m_getr C e_q_oddsBeside_37 fg_Mo_9 rfl (by decide) rfl ?_
    refine m_blk 41 [(3, vr 1 z9), (0, vr 0 0), (1, vi p), (2, vi w)] [vi p, vr 5 0, vi 0, vi p, vr 0 0, vr 1 z9, vr 0 0] C f_q_oddsBeside_40_1 rfl ?_
    obtain ⟨x26, hx26⟩ : ∃ x, A16 5 0 p.toNat = x := ⟨_, rfl⟩
    have rx26 : 0 ≤ x26 ∧ x26 ≤ 16 := mrg hT_n18 hx26 rfl
    have eNx26 : x26 = N := hx26.symm.trans ((hF_n18 5 0 p.toNat (rm_far (by decide) (by decide) _)).trans hN)
    refine m_iald C e_q_oddsBeside_41 rfl (by decide) (by decide) (by omega) (by show p < ((6 : Nat) : Int); omega) x26 hx26 ?_
    refine m_blk 43 [(3, vr 1 z9), (0, vr 0 0), (1, vi p), (2, vi w)] [vi w, vi x26, vi 0, vi p, vr 0 0, vr 1 z9, vr 0 0] C f_q_oddsBeside_42_1 rfl ?_
    refine m_callV C Rm Y [vi p, vi 0, vi x26, vi w] [vr 1 z9, vr 0 0] ((q_needed_ 17).1 l D B H0 ad _ hT_n18 N M Ln dep p 0 x26 w (by show 0 ≤ p ∧ p ≤ 5; omega) (hK.rmk hF_n18) ((ha.rmk hF_n18).le (by omega)) (by show 0 ≤ 0 ∧ 0 ≤ 16 ∧ 0 ≤ x26 ∧ x26 ≤ N ∧ 17 - 0 ≤ ((17 : Nat) : Int); omega) (by show -2147483648 ≤ w ∧ w ≤ 2147483647; omega)) cl_Mo_300 rfl (by decide) rfl rfl e_q_oddsBeside_43 rfl rfl rfl ⟨by decide, by decide⟩ ?_
    rintro v27 A28 ⟨z31, rfl, rfl, raw_hz_n30⟩
    have hz_n30 : -2147483648 ≤ z31 ∧ z31 ≤ 2147483647 := raw_hz_n30
    clear raw_hz_n30
    show JM g D ad w0 A16 46 [(3, vr 1 z9), (0, vr 0 0), (1, vi p), (2, vi w)] [vi z31, vr 1 z9, vr 0 0]
    refine m_callV C Rm Y [vr 1 z9, vi z31] [] (q_forget l D B H0 ad _ hT_n18 (u + 1) 1125899906842624 z9 z31 (by show A16 0 0 33 = (u + 1) ∧ 0 ≤ (u + 1) ∧ (u + 1) ≤ 199; omega) (by show (z9 : Int) < (u + 1); omega) ob_n18 (by show 0 ≤ 1125899906842624 ∧ 1125899906842624 ≤ 1125899906842624; omega) (by show -2147483648 ≤ z31 ∧ z31 ≤ 2147483647; omega)) cl_Mo_310 rfl (by decide) rfl rfl e_q_oddsBeside_46 rfl rfl rfl ⟨by decide, by decide⟩ ?_
    rintro v32 A33 ⟨z36, rfl, hT_n35, hE_n35, raw_hz_n35, raw_hu_n35, raw_hO_n35⟩
    have hF_n35 := hF_n18.trans (hE_n35.sub (dm_rm (by omega)))
    have hz_n35 : (z36 : Int) = (u + 1) := raw_hz_n35
    clear raw_hz_n35
    have hu_n35 : A33 0 0 33 = (u + 1) + 1 := raw_hu_n35
    clear raw_hu_n35
    have hO_n35 : oG A33 z36 1125899906842624 := raw_hO_n35
    clear raw_hO_n35
    show JM g D ad w0 A33 49 [(3, vr 1 z9), (0, vr 0 0), (1, vi p), (2, vi w)] [vr 1 z36]
    have ms_n35 : mS A33 := ms_n18.dmk hE_n35
    have ku_n35 : A33 0 0 33 = u + 2 := (by have h9 := hu_n35; omega)
    refine m_blk 54 [(3, vr 1 z36), (0, vr 0 0), (1, vi p), (2, vi w)] [vr 0 0, vi 0, vi p, vr 0 0] C f_q_oddsBeside_49_5 rfl ?_
    refine m_getr C e_q_oddsBeside_54 fg_Mo_9 rfl (by decide) rfl ?_
    refine m_blk 58 [(3, vr 1 z36), (0, vr 0 0), (1, vi p), (2, vi w)] [vi p, vr 5 0, vi 0, vi p, vr 0 0] C f_q_oddsBeside_57_1 rfl ?_
    obtain ⟨x37, hx37⟩ : ∃ x, A33 5 0 p.toNat = x := ⟨_, rfl⟩
    have rx37 : 0 ≤ x37 ∧ x37 ≤ 16 := mrg hT_n35 hx37 rfl
    have eNx37 : x37 = N := hx37.symm.trans ((hF_n35 5 0 p.toNat (rm_far (by decide) (by decide) _)).trans hN)
    refine m_iald C e_q_oddsBeside_58 rfl (by decide) (by decide) (by omega) (by show p < ((6 : Nat) : Int); omega) x37 hx37 ?_
    refine m_blk 61 [(3, vr 1 z36), (0, vr 0 0), (1, vi p), (2, vi w)] [vi w, vr 1 z36, vi x37, vi 0, vi p, vr 0 0] C f_q_oddsBeside_59_2 rfl ?_
    refine m_callV C Rm Y [vi p, vi 0, vi x37, vr 1 z36, vi w] [] ((q_made_ 117).1 l D B H0 ad _ hT_n35 (u + 2) 1125899906842624 N M Ln dep 0 p 0 x37 z36 w (by show 0 ≤ p ∧ p ≤ 5; omega) (hK.rmk hF_n35) ((ha.rmk hF_n35).le (by omega)) (by show 0 ≤ 0 ∧ 0 ≤ 16 ∧ 0 ≤ x37 ∧ x37 ≤ N ∧ 20 * p + 17 - 0 ≤ ((117 : Nat) : Int); omega) (hK.dQ0 (by omega)) (by show A33 0 0 33 = (u + 2) ∧ 0 ≤ (u + 2) ∧ (u + 2) + (19 * p + 23 - 4 * 0) ≤ 200 ∧ 0 ≤ 0 ∧ 0 ≤ 5; omega) (by show (z36 : Int) < (u + 2); omega) hO_n35 (by show 0 ≤ 1125899906842624 ∧ 1125899906842624 ≤ 1125899906842624; omega) (by show -2147483648 ≤ w ∧ w ≤ 2147483647; omega) ms_n35) cl_Mo_336 rfl (by decide) rfl rfl e_q_oddsBeside_61 rfl rfl rfl ⟨by decide, by decide⟩ ?_
    rintro v38 A39 ⟨z42, rfl, hT_n41, hE_n41, raw_hz_n41, raw_hu_n41, raw_hx_n41, raw_hO_n41, raw_hS_n41⟩
    have hF_n41 := hF_n35.trans (hE_n41.sub (rm_rm (by omega)))
    have hz_n41 : (z42 : Int) = (u + 2) := raw_hz_n41
    clear raw_hz_n41
    have hu_n41 : (u + 2) + 1 ≤ A39 0 0 33 ∧ A39 0 0 33 ≤ (u + 2) + 2 + 4 * (5 - 0) := raw_hu_n41
    clear raw_hu_n41
    have hx_n41 : xQ A39 ((u + 2) + 1) := raw_hx_n41
    clear raw_hx_n41
    have hO_n41 : oG A39 z42 1125899906842624 := raw_hO_n41
    clear raw_hO_n41
    have hS_n41 : mS A39 := raw_hS_n41
    clear raw_hS_n41
    show JM g D ad w0 A39 64 [(3, vr 1 z36), (0, vr 0 0), (1, vi p), (2, vi w)] [vr 1 z42]
    exact m_aret C Rm E e_q_oddsBeside_64 ⟨z42, rfl, hT_n41, hF_n41, (by show u ≤ (z42 : Int) ∧ (z42 : Int) < A39 0 0 33; omega), (by show A39 0 0 33 ≤ u + 24; omega), hO_n41, hS_n41⟩

theorem f_q_odds_0_2 : mblkB b_Mo_odds_0 [(0, .aload_n 0, vi 0), (1, .iconst 0, vi 0)] = true := by decide +kernel
theorem e_q_odds_2 : decode b_Mo_odds_0 2 = .ok (.putfield 269, 3) := by decide +kernel
theorem f_q_odds_5_3 : mblkB b_Mo_odds_0 [(5, .aload_n 0, vi 0), (6, .iload_n 1, vi 0), (7, .iload_n 2, vi 0)] = true := by decide +kernel
theorem e_q_odds_8 : decode b_Mo_odds_0 8 = .ok (.invokevirtual 354, 3) := by decide +kernel
theorem e_q_odds_11 : decode b_Mo_odds_0 11 = .ok (.areturn, 1) := by decide +kernel
set_option maxHeartbeats 40000000 in
set_option maxRecDepth 100000 in
theorem q_odds (l : Launch) (D : va_G) (B : Nat) (H0 : Heap) (ad : mAd) (A : mA) (hT : mTy A)  (p : Int) (w : Int) (hp : 0 ≤ p ∧ p ≤ 5) (ha : aOk A (p + 1)) (hw : -2147483648 ≤ w ∧ w ≤ 2147483647) (hS : mS A)  : mMet l D B H0 ad y_Mo_odds_0 b_Mo_odds_0 3 (some (.object "ChanceStepsModel$Odds")) 905 23300 [vr 0 0, vi p, vi w] A (fun v9 A9 => ∃ z : Nat, v9 = some (vr 1 z) ∧ mTy A9 ∧ mEq (rm 0) A A9 ∧ (0 ≤ (z : Int) ∧ (z : Int) < A9 0 0 33) ∧ (A9 0 0 33 ≤ 24) ∧ (oG A9 z 1125899906842624) ∧ (mS A9)) := by
  refine m_met (by decide) rfl (fun g w0 C Rm Y E => ?_)
  have hE0 : mEq (rm 0) A A := mEq.rfl'
  show JM g D ad w0 A 0 [(0, vr 0 0), (1, vi p), (2, vi w)] []
  refine m_blk 2 [(0, vr 0 0), (1, vi p), (2, vi w)] [vi 0, vr 0 0] C f_q_odds_0_2 rfl ?_
  refine m_puti C e_q_odds_2 fp_Mo_269 rfl (by decide) rfl ?_
  have t1 : mTy (mu A 0 0 33 0) := hT.mu (by show 0 ≤ 0 ∧ 0 ≤ 200; omega)
  have q2 := hE0.mu (f := 0) (k := 0) (j := 33) (z := 0) (by simp [rm])
  refine m_blk 8 [(0, vr 0 0), (1, vi p), (2, vi w)] [vi w, vi p, vr 0 0] C f_q_odds_5_3 rfl ?_
  refine m_callV C Rm Y [vi p, vi w] [] (q_oddsBeside l D B H0 ad _ t1 0 p w (by show 0 ≤ p ∧ p ≤ 5; omega) ((ha.rmk q2).le (by omega)) (by show 0 = 0 ∧ 0 ≤ 0 ∧ 0 + (19 * p + 25) ≤ 200; omega) (by show -2147483648 ≤ w ∧ w ≤ 2147483647; omega) (hS.muf (by decide))) cl_Mo_354 rfl (by decide) rfl rfl e_q_odds_8 rfl rfl rfl ⟨by decide, by decide⟩ ?_
  rintro v3 A4 ⟨z7, rfl, hT_n6, hE_n6, raw_hz_n6, raw_hu_n6, raw_hO_n6, raw_hS_n6⟩
  have hF_n6 := q2.trans (hE_n6.sub (rm_rm (Nat.zero_le _)))
  have hz_n6 : 0 ≤ (z7 : Int) ∧ (z7 : Int) < A4 0 0 33 := raw_hz_n6
  clear raw_hz_n6
  have hu_n6 : A4 0 0 33 ≤ 0 + 24 := raw_hu_n6
  clear raw_hu_n6
  have hO_n6 : oG A4 z7 1125899906842624 := raw_hO_n6
  clear raw_hO_n6
  have hS_n6 : mS A4 := raw_hS_n6
  clear raw_hS_n6
  show JM g D ad w0 A4 11 [(0, vr 0 0), (1, vi p), (2, vi w)] [vr 1 z7]
  exact m_aret C Rm E e_q_odds_11 ⟨z7, rfl, hT_n6, hF_n6, (by show 0 ≤ (z7 : Int) ∧ (z7 : Int) < A4 0 0 33; omega), (by show A4 0 0 33 ≤ 24; omega), hO_n6, hS_n6⟩
