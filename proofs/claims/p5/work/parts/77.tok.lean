/-! the reference: words and tokens (own work, by program) -/
def nm (f _k j : Nat) : Bool := f == 0 && (j == 23 || (j == 24 || (j == 25 || (j == 26 || j == 31))))
section MS
variable {g : jG} {D : va_G} {ad : mAd} {w0 : jW} {A : mA} {cc : ByteArray} {nL pc : Nat} {own : String} {L : List (Nat × mV)} {st : List mV} {l : Launch} {B : Nat} {H0 : Heap} {y0 : MethodName} {rm : Room}
theorem jlen_lt9 {i : Nat} (hi : i < 13) : jlen.getD i 0 < 20 := by
  have : ∀ i, i < 13 → jlen.getD i 0 < 20 := by decide
  exact this i hi
theorem nI_oi {n : Nat} (h : n < 2 ^ 31) : nI n = Int32.ofInt (n : Int) := by rw [jeq, nI_toInt h, iR (by omega)]
theorem m_slen (C : jX g cc nL own D) (Rm : jRm g w0.2.1 w0.2.2 rm) (Y : jY g l B H0 y0) (hS : mStr D ad) {idx i : Nat} (rest : List mV) (hi : i < 13) (hc : jcV own idx y_Str_length b_Str_length 1 (some .int) 0) (hd : decode cc pc = .ok (.invokevirtual idx, 3)) (h8 : Nat.ble (mcsum rest) 8 = true) (hR : 1 + 1 ≤ rm.frames ∧ 8 + (1 + 11) + 40 ≤ rm.locals)
    (kk : ∀ n : Int, 0 ≤ n ∧ n ≤ 19 ∧ n = ((jlen.getD i 0 : Nat) : Int) → JM g D ad w0 A (pc + 3) L (vi n :: rest)) : JM g D ad w0 A pc L (vr 90 i :: rest) := fun w hw hr => by
  have e : mSt ad (vr 90 i :: rest) = ([] : List Value).reverse ++ .ref (jsK D i) :: mSt ad rest := by
    rw [← hS i hi]
    simp [mSt, mc]
  rw [e]
  refine j_callVK C Rm Y [] (mSt ad rest) hi rfl (c_Str_length l D B H0 w i hi) hc hd rfl rfl (by rw [mcsum_ok]; exact Nat.le_of_ble_eq_true h8) hR (mrm hr Rm) (fun v w' hp => ?_)
  obtain ⟨rfl, rfl⟩ := hp
  have hl := jlen_lt9 hi
  have k := kk ((jlen.getD i 0 : Nat) : Int) ⟨by omega, by omega, rfl⟩ w' hw hr
  have e2 : mc ad (vi ((jlen.getD i 0 : Nat) : Int)) = .int (nI (jlen.getD i 0)) := congrArg Value.int (nI_oi (by omega)).symm
  rw [mSt, List.map_cons, e2] at k
  exact k
theorem m_scat (C : jX g cc nL own D) (Rm : jRm g w0.2.1 w0.2.2 rm) (Y : jY g l B H0 y0) (hS : mStr D ad) {idx i : Nat} {x : Int} (rest : List mV) (hi : i < 13) (hc : jcV own idx y_Str_charAt b_Str_charAt 2 (some .char) 1) (h0 : 0 ≤ x ∧ x < ((jlen.getD i 0 : Nat) : Int)) (hd : decode cc pc = .ok (.invokevirtual idx, 3)) (h8 : Nat.ble (mcsum rest) 8 = true) (hR : 3 + 1 ≤ rm.frames ∧ 8 + (2 + 11) + 120 ≤ rm.locals)
    (kk : ∀ z : Int, (-2147483648 ≤ z ∧ z ≤ 2147483647) ∧ z = ((jbyt.getD i []).getD x.toNat 0).toInt → JM g D ad w0 A (pc + 3) L (vi z :: rest)) : JM g D ad w0 A pc L (vi x :: vr 90 i :: rest) := fun w hw hr => by
  have hl := jlen_lt9 hi
  have hx : nI x.toNat = Int32.ofInt x := by
    rw [nI_oi (by omega)]
    congr 1
    omega
  have e : mSt ad (vi x :: vr 90 i :: rest) = ([.int (nI x.toNat)] : List Value).reverse ++ .ref (jsK D i) :: mSt ad rest := by
    rw [← hS i hi, hx]
    simp [mSt, mc]
  rw [e]
  refine j_callVK C Rm Y [.int (nI x.toNat)] (mSt ad rest) hi rfl (c_Str_charAt l D B H0 w i x.toNat hi (by omega)) hc hd rfl rfl (by rw [mcsum_ok]; exact Nat.le_of_ble_eq_true h8) hR (mrm hr Rm) (fun v w' hp => ?_)
  obtain ⟨rfl, rfl⟩ := hp
  have k := kk ((jbyt.getD i []).getD x.toNat 0).toInt ⟨⟨jlo _, by have := jhi ((jbyt.getD i []).getD x.toNat 0); omega⟩, rfl⟩ w' hw hr
  have e2 : mc ad (vi ((jbyt.getD i []).getD x.toNat 0).toInt) = .int ((jbyt.getD i []).getD x.toNat 0) := congrArg Value.int (Int32.ofInt_toInt _)
  rw [mSt, List.map_cons, e2] at k
  exact k
end MS
theorem f_q_isWord_0_1 : mblkB b_Mo_isWord [(0, .aload_n 1, vi 0)] = true := by decide +kernel
theorem e_q_isWord_1 : decode b_Mo_isWord 1 = .ok (.invokevirtual 119, 3) := by decide +kernel
theorem f_q_isWord_4_1 : mblkB b_Mo_isWord [(4, .aload_n 0, vi 0)] = true := by decide +kernel
theorem e_q_isWord_5 : decode b_Mo_isWord 5 = .ok (.getfield 125, 3) := by decide +kernel
theorem f_q_isWord_8_1 : mblkB b_Mo_isWord [(8, .aload_n 0, vi 0)] = true := by decide +kernel
theorem e_q_isWord_9 : decode b_Mo_isWord 9 = .ok (.getfield 128, 3) := by decide +kernel
theorem f_q_isWord_12_1 : mblkB b_Mo_isWord [(12, .isub, vi 0)] = true := by decide +kernel
theorem e_q_isWord_13 : decode b_Mo_isWord 13 = .ok (.if_icmp .eq 5, 3) := by decide +kernel
theorem f_q_isWord_18_2 : mblkB b_Mo_isWord [(18, .iconst 0, vi 0), (19, .istore_n 2, vi 0)] = true := by decide +kernel
theorem f_q_isWord_20_2 : mblkB b_Mo_isWord [(20, .iload_n 2, vi 0), (21, .aload_n 1, vi 0)] = true := by decide +kernel
theorem e_q_isWord_22 : decode b_Mo_isWord 22 = .ok (.invokevirtual 119, 3) := by decide +kernel
theorem e_q_isWord_25 : decode b_Mo_isWord 25 = .ok (.if_icmp .ge 29, 3) := by decide +kernel
theorem f_q_isWord_54_1 : mblkB b_Mo_isWord [(54, .iconst 1, vi 1)] = true := by decide +kernel
theorem e_q_isWord_55 : decode b_Mo_isWord 55 = .ok (.ireturn, 1) := by decide +kernel
theorem f_q_isWord_28_2 : mblkB b_Mo_isWord [(28, .aload_n 1, vi 0), (29, .iload_n 2, vi 0)] = true := by decide +kernel
theorem e_q_isWord_30 : decode b_Mo_isWord 30 = .ok (.invokevirtual 131, 3) := by decide +kernel
theorem f_q_isWord_33_2 : mblkB b_Mo_isWord [(33, .aload_n 0, vi 0), (34, .aload_n 0, vi 0)] = true := by decide +kernel
theorem e_q_isWord_35 : decode b_Mo_isWord 35 = .ok (.getfield 128, 3) := by decide +kernel
theorem f_q_isWord_38_2 : mblkB b_Mo_isWord [(38, .iload_n 2, vi 0), (39, .iadd, vi 0)] = true := by decide +kernel
theorem e_q_isWord_40 : decode b_Mo_isWord 40 = .ok (.invokevirtual 135, 3) := by decide +kernel
theorem e_q_isWord_43 : decode b_Mo_isWord 43 = .ok (.if_icmp .eq 5, 3) := by decide +kernel
theorem f_q_isWord_48_2 : mblkB b_Mo_isWord [(48, .iinc 2 1, vi 1), (51, .goto (-31), vi 20)] = true := by decide +kernel
theorem f_q_isWord_46_1 : mblkB b_Mo_isWord [(46, .iconst 0, vi 0)] = true := by decide +kernel
theorem e_q_isWord_47 : decode b_Mo_isWord 47 = .ok (.ireturn, 1) := by decide +kernel
theorem f_q_isWord_16_1 : mblkB b_Mo_isWord [(16, .iconst 0, vi 0)] = true := by decide +kernel
theorem e_q_isWord_17 : decode b_Mo_isWord 17 = .ok (.ireturn, 1) := by decide +kernel
set_option maxHeartbeats 40000000 in
set_option maxRecDepth 100000 in
theorem q_isWord (l : Launch) (D : va_G) (B : Nat) (H0 : Heap) (ad : mAd) (A : mA) (hS : mStr D ad) (hT : mTy A)  (w : Nat) (hw : w < 13)  : mMet l D B H0 ad y_Mo_isWord b_Mo_isWord 3 (some .boolean) 4 160 [vr 0 0, vr 90 w] A (fun v9 A9 => ∃ z : Int, v9 = some (vi z) ∧ A = A9 ∧ (z = 0 ∨ z = 1)) := by
  refine m_met (by decide) rfl (fun g w0 C Rm Y E => ?_)
  show JM g D ad w0 A 0 [(0, vr 0 0), (1, vr 90 w)] []
  refine m_blk 1 [(0, vr 0 0), (1, vr 90 w)] [vr 90 w] C f_q_isWord_0_1 rfl ?_
  refine m_slen C Rm Y hS [] hw cl_Mo_119 e_q_isWord_1 rfl ⟨by decide, by decide⟩ (fun z1 hz1 => ?_)
  refine m_blk 5 [(0, vr 0 0), (1, vr 90 w)] [vr 0 0, vi z1] C f_q_isWord_4_1 rfl ?_
  obtain ⟨x2, hx2⟩ : ∃ x, A 0 0 23 = x := ⟨_, rfl⟩
  have rx2 : 0 ≤ x2 ∧ x2 ≤ 120 := mrg hT hx2 rfl
  refine m_geti C e_q_isWord_5 fg_Mo_125 rfl (by decide) rfl x2 hx2 ?_
  refine m_blk 9 [(0, vr 0 0), (1, vr 90 w)] [vr 0 0, vi x2, vi z1] C f_q_isWord_8_1 rfl ?_
  obtain ⟨x3, hx3⟩ : ∃ x, A 0 0 24 = x := ⟨_, rfl⟩
  have rx3 : 0 ≤ x3 ∧ x3 ≤ 120 := mrg hT hx3 rfl
  refine m_geti C e_q_isWord_9 fg_Mo_128 rfl (by decide) rfl x3 hx3 ?_
  refine m_blk 13 [(0, vr 0 0), (1, vr 90 w)] [vi (x2 - x3), vi z1] C f_q_isWord_12_1 rfl ?_
  refine m_icmp_eq (tgt := 18) C e_q_isWord_13 (by decide) (by omega) (by omega) (fun c4 => ?_) (fun c4 => ?_)
  · refine m_blk 20 [(2, vi 0), (0, vr 0 0), (1, vr 90 w)] [] C f_q_isWord_18_2 rfl ?_
    have hd_20 : ∀ (N : Nat) (k : Int), 0 ≤ k ∧ k ≤ ((jlen.getD w 0 : Nat) : Int) → ((jlen.getD w 0 : Nat) : Int) ≤ 19 → (20 - k) < (N : Int) → JM g D ad w0 A 20 [(2, vi k), (1, vr 90 w), (0, vr 0 0)] [] := by
      intro N
      induction N with
      | zero => intro k hk hl hm; exact absurd hm (by omega)
      | succ N ih =>
        intro k hk hl hm
        refine m_blk 22 [(2, vi k), (1, vr 90 w), (0, vr 0 0)] [vr 90 w, vi k] C f_q_isWord_20_2 rfl ?_
        refine m_slen C Rm Y hS [vi k] hw cl_Mo_119 e_q_isWord_22 rfl ⟨by decide, by decide⟩ (fun z5 hz5 => ?_)
        refine m_icmp_ge (tgt := 54) C e_q_isWord_25 (by decide) (by omega) (by omega) (fun c6 => ?_) (fun c6 => ?_)
        · refine m_blk 55 [(2, vi k), (1, vr 90 w), (0, vr 0 0)] [vi 1] C f_q_isWord_54_1 rfl ?_
          exact m_zret C Rm E (Or.inr rfl) e_q_isWord_55 ⟨1, rfl, rfl, (by show 1 = 0 ∨ 1 = 1; omega)⟩
        · refine m_blk 30 [(2, vi k), (1, vr 90 w), (0, vr 0 0)] [vi k, vr 90 w] C f_q_isWord_28_2 rfl ?_
          refine m_scat C Rm Y hS [] hw cl_Mo_131 (by omega) e_q_isWord_30 rfl ⟨by decide, by decide⟩ (fun z7 hz7 => ?_)
          refine m_blk 35 [(2, vi k), (1, vr 90 w), (0, vr 0 0)] [vr 0 0, vr 0 0, vi z7] C f_q_isWord_33_2 rfl ?_
          refine m_geti C e_q_isWord_35 fg_Mo_128 rfl (by decide) rfl x3 hx3 ?_
          refine m_blk 40 [(2, vi k), (1, vr 90 w), (0, vr 0 0)] [vi (x3 + k), vr 0 0, vi z7] C f_q_isWord_38_2 rfl ?_
          refine m_callV C Rm Y [vi (x3 + k)] [vi z7] (q_byteAt l D B H0 ad _ hT (x3 + k) (by show 0 ≤ (x3 + k) ∧ (x3 + k) ≤ 2147483647; omega)) cl_Mo_135 rfl (by decide) rfl rfl e_q_isWord_40 rfl rfl rfl ⟨by decide, by decide⟩ ?_
          rintro v8 A9 ⟨z12, rfl, rfl, raw_hz_n11⟩
          have hz_n11 : A 0 0 22 ≤ (x3 + k) ∧ z12 = -1 ∨ (x3 + k) < A 0 0 22 ∧ 0 ≤ z12 ∧ z12 ≤ 255 ∧ z12 = A 9 0 (Int.toNat (x3 + k)) := raw_hz_n11
          show JM g D ad w0 A 43 [(2, vi k), (1, vr 90 w), (0, vr 0 0)] [vi z12, vi z7]
          refine m_icmp_eq (tgt := 48) C e_q_isWord_43 (by decide) (by omega) (by omega) (fun c13 => ?_) (fun c13 => ?_)
          · refine m_blk 20 [(2, vi (k + 1)), (1, vr 90 w), (0, vr 0 0)] [] C f_q_isWord_48_2 rfl ?_
            refine m_loc [(2, vi (k + 1)), (1, vr 90 w), (0, vr 0 0)] ⟨rfl, rfl, rfl, trivial⟩ ?_
            exact ih (k + 1) (by show 0 ≤ (k + 1) ∧ (k + 1) ≤ ((jlen.getD w 0 : Nat) : Int); omega) (by show ((jlen.getD w 0 : Nat) : Int) ≤ 19; omega) (by have hm9 := hm; show (20 - (k + 1)) < _; omega)
          · refine m_blk 47 [(2, vi k), (1, vr 90 w), (0, vr 0 0)] [vi 0] C f_q_isWord_46_1 rfl ?_
            exact m_zret C Rm E (Or.inl rfl) e_q_isWord_47 ⟨0, rfl, rfl, (by show 0 = 0 ∨ 0 = 1; omega)⟩
    refine m_loc [(2, vi 0), (1, vr 90 w), (0, vr 0 0)] ⟨rfl, rfl, rfl, trivial⟩ ?_
    exact hd_20 (Int.toNat ((20 - 0)) + 1) 0 (by show 0 ≤ 0 ∧ 0 ≤ ((jlen.getD w 0 : Nat) : Int); omega) (by show ((jlen.getD w 0 : Nat) : Int) ≤ 19; omega) (by show (20 - 0) < _; omega)
  · refine m_blk 17 [(0, vr 0 0), (1, vr 90 w)] [vi 0] C f_q_isWord_16_1 rfl ?_
    exact m_zret C Rm E (Or.inl rfl) e_q_isWord_17 ⟨0, rfl, rfl, (by show 0 = 0 ∨ 0 = 1; omega)⟩

theorem f_q_wordRead_0_1 : mblkB b_Mo_wordRead [(0, .aload_n 0, vi 0)] = true := by decide +kernel
theorem e_q_wordRead_1 : decode b_Mo_wordRead 1 = .ok (.ldc 139, 2) := by decide +kernel
theorem e_q_wordRead_3 : decode b_Mo_wordRead 3 = .ok (.invokevirtual 141, 3) := by decide +kernel
theorem e_q_wordRead_6 : decode b_Mo_wordRead 6 = .ok (.ifCond .eq 7, 3) := by decide +kernel
theorem f_q_wordRead_13_1 : mblkB b_Mo_wordRead [(13, .aload_n 0, vi 0)] = true := by decide +kernel
theorem e_q_wordRead_14 : decode b_Mo_wordRead 14 = .ok (.ldc 145, 2) := by decide +kernel
theorem e_q_wordRead_16 : decode b_Mo_wordRead 16 = .ok (.invokevirtual 141, 3) := by decide +kernel
theorem e_q_wordRead_19 : decode b_Mo_wordRead 19 = .ok (.ifCond .eq 7, 3) := by decide +kernel
theorem f_q_wordRead_26_1 : mblkB b_Mo_wordRead [(26, .aload_n 0, vi 0)] = true := by decide +kernel
theorem e_q_wordRead_27 : decode b_Mo_wordRead 27 = .ok (.ldc 147, 2) := by decide +kernel
theorem e_q_wordRead_29 : decode b_Mo_wordRead 29 = .ok (.invokevirtual 141, 3) := by decide +kernel
theorem e_q_wordRead_32 : decode b_Mo_wordRead 32 = .ok (.ifCond .eq 7, 3) := by decide +kernel
theorem f_q_wordRead_39_1 : mblkB b_Mo_wordRead [(39, .aload_n 0, vi 0)] = true := by decide +kernel
theorem e_q_wordRead_40 : decode b_Mo_wordRead 40 = .ok (.ldc 149, 2) := by decide +kernel
theorem e_q_wordRead_42 : decode b_Mo_wordRead 42 = .ok (.invokevirtual 141, 3) := by decide +kernel
theorem e_q_wordRead_45 : decode b_Mo_wordRead 45 = .ok (.ifCond .eq 7, 3) := by decide +kernel
theorem f_q_wordRead_52_1 : mblkB b_Mo_wordRead [(52, .aload_n 0, vi 0)] = true := by decide +kernel
theorem e_q_wordRead_53 : decode b_Mo_wordRead 53 = .ok (.ldc 151, 2) := by decide +kernel
theorem e_q_wordRead_55 : decode b_Mo_wordRead 55 = .ok (.invokevirtual 141, 3) := by decide +kernel
theorem e_q_wordRead_58 : decode b_Mo_wordRead 58 = .ok (.ifCond .eq 7, 3) := by decide +kernel
theorem f_q_wordRead_65_1 : mblkB b_Mo_wordRead [(65, .aload_n 0, vi 0)] = true := by decide +kernel
theorem e_q_wordRead_66 : decode b_Mo_wordRead 66 = .ok (.ldc 153, 2) := by decide +kernel
theorem e_q_wordRead_68 : decode b_Mo_wordRead 68 = .ok (.invokevirtual 141, 3) := by decide +kernel
theorem e_q_wordRead_71 : decode b_Mo_wordRead 71 = .ok (.ifCond .eq 7, 3) := by decide +kernel
theorem f_q_wordRead_78_1 : mblkB b_Mo_wordRead [(78, .iconst (-1), vi (-1))] = true := by decide +kernel
theorem e_q_wordRead_79 : decode b_Mo_wordRead 79 = .ok (.ireturn, 1) := by decide +kernel
theorem f_q_wordRead_74_2 : mblkB b_Mo_wordRead [(74, .iconst 5, vi 5), (75, .goto 4, vi 79)] = true := by decide +kernel
theorem f_q_wordRead_61_2 : mblkB b_Mo_wordRead [(61, .iconst 4, vi 4), (62, .goto 17, vi 79)] = true := by decide +kernel
theorem f_q_wordRead_48_2 : mblkB b_Mo_wordRead [(48, .iconst 3, vi 3), (49, .goto 30, vi 79)] = true := by decide +kernel
theorem f_q_wordRead_35_2 : mblkB b_Mo_wordRead [(35, .iconst 2, vi 2), (36, .goto 43, vi 79)] = true := by decide +kernel
theorem f_q_wordRead_22_2 : mblkB b_Mo_wordRead [(22, .iconst 1, vi 1), (23, .goto 56, vi 79)] = true := by decide +kernel
theorem f_q_wordRead_9_2 : mblkB b_Mo_wordRead [(9, .iconst 0, vi 0), (10, .goto 69, vi 79)] = true := by decide +kernel
set_option maxHeartbeats 40000000 in
set_option maxRecDepth 100000 in
theorem q_wordRead (l : Launch) (D : va_G) (B : Nat) (H0 : Heap) (ad : mAd) (A : mA) (hS : mStr D ad) (hT : mTy A)   : mMet l D B H0 ad y_Mo_wordRead b_Mo_wordRead 1 (some .int) 5 200 [vr 0 0] A (fun v9 A9 => ∃ z : Int, v9 = some (vi z) ∧ A = A9 ∧ (-1 ≤ z ∧ z ≤ 5)) := by
  refine m_met (by decide) rfl (fun g w0 C Rm Y E => ?_)
  show JM g D ad w0 A 0 [(0, vr 0 0)] []
  refine m_blk 1 [(0, vr 0 0)] [vr 0 0] C f_q_wordRead_0_1 rfl ?_
  refine m_ldcS (i := 6) C hS (by decide) rfl e_q_wordRead_1 ?_
  refine m_callV C Rm Y [vr 90 6] [] (q_isWord l D B H0 ad _ hS hT 6 (by decide)) cl_Mo_141 rfl (by decide) rfl rfl e_q_wordRead_3 rfl rfl rfl ⟨by decide, by decide⟩ ?_
  rintro v1 A2 ⟨z5, rfl, rfl, raw_hz_n4⟩
  have hz_n4 : z5 = 0 ∨ z5 = 1 := raw_hz_n4
  show JM g D ad w0 A 6 [(0, vr 0 0)] [vi z5]
  refine m_if_eq (tgt := 13) C e_q_wordRead_6 (by decide) (by omega) (fun c6 => ?_) (fun c6 => ?_)
  · refine m_blk 14 [(0, vr 0 0)] [vr 0 0] C f_q_wordRead_13_1 rfl ?_
    refine m_ldcS (i := 7) C hS (by decide) rfl e_q_wordRead_14 ?_
    refine m_callV C Rm Y [vr 90 7] [] (q_isWord l D B H0 ad _ hS hT 7 (by decide)) cl_Mo_141 rfl (by decide) rfl rfl e_q_wordRead_16 rfl rfl rfl ⟨by decide, by decide⟩ ?_
    rintro v7 A8 ⟨z11, rfl, rfl, raw_hz_n10⟩
    have hz_n10 : z11 = 0 ∨ z11 = 1 := raw_hz_n10
    show JM g D ad w0 A 19 [(0, vr 0 0)] [vi z11]
    refine m_if_eq (tgt := 26) C e_q_wordRead_19 (by decide) (by omega) (fun c12 => ?_) (fun c12 => ?_)
    · refine m_blk 27 [(0, vr 0 0)] [vr 0 0] C f_q_wordRead_26_1 rfl ?_
      refine m_ldcS (i := 8) C hS (by decide) rfl e_q_wordRead_27 ?_
      refine m_callV C Rm Y [vr 90 8] [] (q_isWord l D B H0 ad _ hS hT 8 (by decide)) cl_Mo_141 rfl (by decide) rfl rfl e_q_wordRead_29 rfl rfl rfl ⟨by decide, by decide⟩ ?_
      rintro v13 A14 ⟨z17, rfl, rfl, raw_hz_n16⟩
      have hz_n16 : z17 = 0 ∨ z17 = 1 := raw_hz_n16
      show JM g D ad w0 A 32 [(0, vr 0 0)] [vi z17]
      refine m_if_eq (tgt := 39) C e_q_wordRead_32 (by decide) (by omega) (fun c18 => ?_) (fun c18 => ?_)
      · refine m_blk 40 [(0, vr 0 0)] [vr 0 0] C f_q_wordRead_39_1 rfl ?_
        refine m_ldcS (i := 9) C hS (by decide) rfl e_q_wordRead_40 ?_
        refine m_callV C Rm Y [vr 90 9] [] (q_isWord l D B H0 ad _ hS hT 9 (by decide)) cl_Mo_141 rfl (by decide) rfl rfl e_q_wordRead_42 rfl rfl rfl ⟨by decide, by decide⟩ ?_
        rintro v19 A20 ⟨z23, rfl, rfl, raw_hz_n22⟩
        have hz_n22 : z23 = 0 ∨ z23 = 1 := raw_hz_n22
        show JM g D ad w0 A 45 [(0, vr 0 0)] [vi z23]
        refine m_if_eq (tgt := 52) C e_q_wordRead_45 (by decide) (by omega) (fun c24 => ?_) (fun c24 => ?_)
        · refine m_blk 53 [(0, vr 0 0)] [vr 0 0] C f_q_wordRead_52_1 rfl ?_
          refine m_ldcS (i := 10) C hS (by decide) rfl e_q_wordRead_53 ?_
          refine m_callV C Rm Y [vr 90 10] [] (q_isWord l D B H0 ad _ hS hT 10 (by decide)) cl_Mo_141 rfl (by decide) rfl rfl e_q_wordRead_55 rfl rfl rfl ⟨by decide, by decide⟩ ?_
          rintro v25 A26 ⟨z29, rfl, rfl, raw_hz_n28⟩
          have hz_n28 : z29 = 0 ∨ z29 = 1 := raw_hz_n28
          show JM g D ad w0 A 58 [(0, vr 0 0)] [vi z29]
          refine m_if_eq (tgt := 65) C e_q_wordRead_58 (by decide) (by omega) (fun c30 => ?_) (fun c30 => ?_)
          · refine m_blk 66 [(0, vr 0 0)] [vr 0 0] C f_q_wordRead_65_1 rfl ?_
            refine m_ldcS (i := 11) C hS (by decide) rfl e_q_wordRead_66 ?_
            refine m_callV C Rm Y [vr 90 11] [] (q_isWord l D B H0 ad _ hS hT 11 (by decide)) cl_Mo_141 rfl (by decide) rfl rfl e_q_wordRead_68 rfl rfl rfl ⟨by decide, by decide⟩ ?_
            rintro v31 A32 ⟨z35, rfl, rfl, raw_hz_n34⟩
            have hz_n34 : z35 = 0 ∨ z35 = 1 := raw_hz_n34
            show JM g D ad w0 A 71 [(0, vr 0 0)] [vi z35]
            refine m_if_eq (tgt := 78) C e_q_wordRead_71 (by decide) (by omega) (fun c36 => ?_) (fun c36 => ?_)
            · refine m_blk 79 [(0, vr 0 0)] [vi (-1)] C f_q_wordRead_78_1 rfl ?_
              exact m_iret C Rm E e_q_wordRead_79 ⟨(-1), rfl, rfl, (by show -1 ≤ (-1) ∧ (-1) ≤ 5; omega)⟩
            · refine m_blk 79 [(0, vr 0 0)] [vi 5] C f_q_wordRead_74_2 rfl ?_
              exact m_iret C Rm E e_q_wordRead_79 ⟨5, rfl, rfl, (by show -1 ≤ 5 ∧ 5 ≤ 5; omega)⟩
          · refine m_blk 79 [(0, vr 0 0)] [vi 4] C f_q_wordRead_61_2 rfl ?_
            exact m_iret C Rm E e_q_wordRead_79 ⟨4, rfl, rfl, (by show -1 ≤ 4 ∧ 4 ≤ 5; omega)⟩
        · refine m_blk 79 [(0, vr 0 0)] [vi 3] C f_q_wordRead_48_2 rfl ?_
          exact m_iret C Rm E e_q_wordRead_79 ⟨3, rfl, rfl, (by show -1 ≤ 3 ∧ 3 ≤ 5; omega)⟩
      · refine m_blk 79 [(0, vr 0 0)] [vi 2] C f_q_wordRead_35_2 rfl ?_
        exact m_iret C Rm E e_q_wordRead_79 ⟨2, rfl, rfl, (by show -1 ≤ 2 ∧ 2 ≤ 5; omega)⟩
    · refine m_blk 79 [(0, vr 0 0)] [vi 1] C f_q_wordRead_22_2 rfl ?_
      exact m_iret C Rm E e_q_wordRead_79 ⟨1, rfl, rfl, (by show -1 ≤ 1 ∧ 1 ≤ 5; omega)⟩
  · refine m_blk 79 [(0, vr 0 0)] [vi 0] C f_q_wordRead_9_2 rfl ?_
    exact m_iret C Rm E e_q_wordRead_79 ⟨0, rfl, rfl, (by show -1 ≤ 0 ∧ 0 ≤ 5; omega)⟩

theorem f_q_next_0_1 : mblkB b_Mo_next [(0, .aload_n 0, vi 0)] = true := by decide +kernel
theorem e_q_next_1 : decode b_Mo_next 1 = .ok (.getfield 155, 3) := by decide +kernel
theorem e_q_next_4 : decode b_Mo_next 4 = .ok (.ifCond .eq 4, 3) := by decide +kernel
theorem f_q_next_8_2 : mblkB b_Mo_next [(8, .aload_n 0, vi 0), (9, .aload_n 0, vi 0)] = true := by decide +kernel
theorem e_q_next_10 : decode b_Mo_next 10 = .ok (.getfield 125, 3) := by decide +kernel
theorem e_q_next_13 : decode b_Mo_next 13 = .ok (.invokevirtual 135, 3) := by decide +kernel
theorem f_q_next_16_1 : mblkB b_Mo_next [(16, .bipush 32, vi 32)] = true := by decide +kernel
theorem e_q_next_18 : decode b_Mo_next 18 = .ok (.if_icmp .eq 16, 3) := by decide +kernel
theorem f_q_next_34_2 : mblkB b_Mo_next [(34, .aload_n 0, vi 0), (35, .dup, vi 0)] = true := by decide +kernel
theorem e_q_next_36 : decode b_Mo_next 36 = .ok (.getfield 125, 3) := by decide +kernel
theorem f_q_next_39_2 : mblkB b_Mo_next [(39, .iconst 1, vi 1), (40, .iadd, vi 0)] = true := by decide +kernel
theorem e_q_next_41 : decode b_Mo_next 41 = .ok (.putfield 125, 3) := by decide +kernel
theorem f_q_next_44_1 : mblkB b_Mo_next [(44, .goto (-36), vi 8)] = true := by decide +kernel
theorem f_q_next_21_2 : mblkB b_Mo_next [(21, .aload_n 0, vi 0), (22, .aload_n 0, vi 0)] = true := by decide +kernel
theorem e_q_next_23 : decode b_Mo_next 23 = .ok (.getfield 125, 3) := by decide +kernel
theorem e_q_next_26 : decode b_Mo_next 26 = .ok (.invokevirtual 135, 3) := by decide +kernel
theorem f_q_next_29_1 : mblkB b_Mo_next [(29, .bipush 10, vi 10)] = true := by decide +kernel
theorem e_q_next_31 : decode b_Mo_next 31 = .ok (.if_icmp .ne 16, 3) := by decide +kernel
theorem f_q_next_47_2 : mblkB b_Mo_next [(47, .aload_n 0, vi 0), (48, .aload_n 0, vi 0)] = true := by decide +kernel
theorem e_q_next_49 : decode b_Mo_next 49 = .ok (.getfield 125, 3) := by decide +kernel
theorem e_q_next_52 : decode b_Mo_next 52 = .ok (.putfield 128, 3) := by decide +kernel
theorem f_q_next_55_2 : mblkB b_Mo_next [(55, .aload_n 0, vi 0), (56, .aload_n 0, vi 0)] = true := by decide +kernel
theorem e_q_next_57 : decode b_Mo_next 57 = .ok (.getfield 125, 3) := by decide +kernel
theorem e_q_next_60 : decode b_Mo_next 60 = .ok (.invokevirtual 135, 3) := by decide +kernel
theorem f_q_next_63_3 : mblkB b_Mo_next [(63, .istore_n 1, vi 0), (64, .iload_n 1, vi 0), (65, .iconst (-1), vi (-1))] = true := by decide +kernel
theorem e_q_next_66 : decode b_Mo_next 66 = .ok (.if_icmp .ne 11, 3) := by decide +kernel
theorem f_q_next_77_3 : mblkB b_Mo_next [(77, .iload_n 1, vi 0), (78, .bipush 97, vi 97), (80, .bipush 122, vi 122)] = true := by decide +kernel
theorem e_q_next_82 : decode b_Mo_next 82 = .ok (.invokestatic 108, 3) := by decide +kernel
theorem e_q_next_85 : decode b_Mo_next 85 = .ok (.ifCond .eq 111, 3) := by decide +kernel
theorem f_q_next_196_3 : mblkB b_Mo_next [(196, .iload_n 1, vi 0), (197, .bipush 48, vi 48), (199, .bipush 57, vi 57)] = true := by decide +kernel
theorem e_q_next_201 : decode b_Mo_next 201 = .ok (.invokestatic 108, 3) := by decide +kernel
theorem e_q_next_204 : decode b_Mo_next 204 = .ok (.ifCond .eq 105, 3) := by decide +kernel
theorem f_q_next_309_2 : mblkB b_Mo_next [(309, .aload_n 0, vi 0), (310, .iconst 4, vi 4)] = true := by decide +kernel
theorem e_q_next_311 : decode b_Mo_next 311 = .ok (.putfield 159, 3) := by decide +kernel
theorem f_q_next_314_2 : mblkB b_Mo_next [(314, .aload_n 0, vi 0), (315, .iload_n 1, vi 0)] = true := by decide +kernel
theorem e_q_next_316 : decode b_Mo_next 316 = .ok (.putfield 165, 3) := by decide +kernel
theorem f_q_next_319_2 : mblkB b_Mo_next [(319, .aload_n 0, vi 0), (320, .dup, vi 0)] = true := by decide +kernel
theorem e_q_next_321 : decode b_Mo_next 321 = .ok (.getfield 125, 3) := by decide +kernel
theorem f_q_next_324_2 : mblkB b_Mo_next [(324, .iconst 1, vi 1), (325, .iadd, vi 0)] = true := by decide +kernel
theorem e_q_next_326 : decode b_Mo_next 326 = .ok (.putfield 125, 3) := by decide +kernel
theorem f_q_next_329_1 : mblkB b_Mo_next [(329, .aload_n 0, vi 0)] = true := by decide +kernel
theorem e_q_next_330 : decode b_Mo_next 330 = .ok (.ldc 168, 2) := by decide +kernel
theorem f_q_next_332_1 : mblkB b_Mo_next [(332, .iload_n 1, vi 0)] = true := by decide +kernel
theorem e_q_next_333 : decode b_Mo_next 333 = .ok (.invokevirtual 170, 3) := by decide +kernel
theorem e_q_next_336 : decode b_Mo_next 336 = .ok (.ifCond .ge 7, 3) := by decide +kernel
theorem f_q_next_343_1 : mblkB b_Mo_next [(343, .iconst 0, vi 0)] = true := by decide +kernel
theorem e_q_next_344 : decode b_Mo_next 344 = .ok (.putfield 155, 3) := by decide +kernel
theorem e_q_next_347 : decode b_Mo_next 347 = .ok (.return_, 1) := by decide +kernel
theorem f_q_next_339_2 : mblkB b_Mo_next [(339, .iconst 1, vi 1), (340, .goto 4, vi 344)] = true := by decide +kernel
theorem f_q_next_207_2 : mblkB b_Mo_next [(207, .aload_n 0, vi 0), (208, .iconst 3, vi 3)] = true := by decide +kernel
theorem e_q_next_209 : decode b_Mo_next 209 = .ok (.putfield 159, 3) := by decide +kernel
theorem f_q_next_212_2 : mblkB b_Mo_next [(212, .aload_n 0, vi 0), (213, .iconst 0, vi 0)] = true := by decide +kernel
theorem e_q_next_214 : decode b_Mo_next 214 = .ok (.putfield 165, 3) := by decide +kernel
theorem f_q_next_217_2 : mblkB b_Mo_next [(217, .aload_n 0, vi 0), (218, .aload_n 0, vi 0)] = true := by decide +kernel
theorem e_q_next_219 : decode b_Mo_next 219 = .ok (.getfield 125, 3) := by decide +kernel
theorem e_q_next_222 : decode b_Mo_next 222 = .ok (.invokevirtual 135, 3) := by decide +kernel
theorem f_q_next_225_2 : mblkB b_Mo_next [(225, .bipush 48, vi 48), (227, .bipush 57, vi 57)] = true := by decide +kernel
theorem e_q_next_229 : decode b_Mo_next 229 = .ok (.invokestatic 108, 3) := by decide +kernel
theorem e_q_next_232 : decode b_Mo_next 232 = .ok (.ifCond .eq 52, 3) := by decide +kernel
theorem f_q_next_284_2 : mblkB b_Mo_next [(284, .aload_n 0, vi 0), (285, .aload_n 0, vi 0)] = true := by decide +kernel
theorem e_q_next_286 : decode b_Mo_next 286 = .ok (.getfield 125, 3) := by decide +kernel
theorem f_q_next_289_1 : mblkB b_Mo_next [(289, .aload_n 0, vi 0)] = true := by decide +kernel
theorem e_q_next_290 : decode b_Mo_next 290 = .ok (.getfield 128, 3) := by decide +kernel
theorem f_q_next_293_2 : mblkB b_Mo_next [(293, .isub, vi 0), (294, .iconst 2, vi 2)] = true := by decide +kernel
theorem e_q_next_295 : decode b_Mo_next 295 = .ok (.if_icmp .le 7, 3) := by decide +kernel
theorem f_q_next_302_1 : mblkB b_Mo_next [(302, .iconst 0, vi 0)] = true := by decide +kernel
theorem e_q_next_303 : decode b_Mo_next 303 = .ok (.putfield 155, 3) := by decide +kernel
theorem f_q_next_306_1 : mblkB b_Mo_next [(306, .goto 41, vi 347)] = true := by decide +kernel
theorem f_q_next_298_2 : mblkB b_Mo_next [(298, .iconst 1, vi 1), (299, .goto 4, vi 303)] = true := by decide +kernel
theorem f_q_next_235_1 : mblkB b_Mo_next [(235, .aload_n 0, vi 0)] = true := by decide +kernel
theorem e_q_next_236 : decode b_Mo_next 236 = .ok (.getfield 125, 3) := by decide +kernel
theorem f_q_next_239_1 : mblkB b_Mo_next [(239, .aload_n 0, vi 0)] = true := by decide +kernel
theorem e_q_next_240 : decode b_Mo_next 240 = .ok (.getfield 128, 3) := by decide +kernel
theorem f_q_next_243_2 : mblkB b_Mo_next [(243, .isub, vi 0), (244, .iconst 2, vi 2)] = true := by decide +kernel
theorem e_q_next_245 : decode b_Mo_next 245 = .ok (.if_icmp .ge 26, 3) := by decide +kernel
theorem f_q_next_271_2 : mblkB b_Mo_next [(271, .aload_n 0, vi 0), (272, .dup, vi 0)] = true := by decide +kernel
theorem e_q_next_273 : decode b_Mo_next 273 = .ok (.getfield 125, 3) := by decide +kernel
theorem f_q_next_276_2 : mblkB b_Mo_next [(276, .iconst 1, vi 1), (277, .iadd, vi 0)] = true := by decide +kernel
theorem e_q_next_278 : decode b_Mo_next 278 = .ok (.putfield 125, 3) := by decide +kernel
theorem f_q_next_281_1 : mblkB b_Mo_next [(281, .goto (-64), vi 217)] = true := by decide +kernel
theorem f_q_next_248_3 : mblkB b_Mo_next [(248, .aload_n 0, vi 0), (249, .bipush 10, vi 10), (251, .aload_n 0, vi 0)] = true := by decide +kernel
theorem e_q_next_252 : decode b_Mo_next 252 = .ok (.getfield 165, 3) := by decide +kernel
theorem f_q_next_255_3 : mblkB b_Mo_next [(255, .imul, vi 0), (256, .aload_n 0, vi 0), (257, .aload_n 0, vi 0)] = true := by decide +kernel
theorem e_q_next_258 : decode b_Mo_next 258 = .ok (.getfield 125, 3) := by decide +kernel
theorem e_q_next_261 : decode b_Mo_next 261 = .ok (.invokevirtual 135, 3) := by decide +kernel
theorem f_q_next_264_3 : mblkB b_Mo_next [(264, .iadd, vi 0), (265, .bipush 48, vi 48), (267, .isub, vi 0)] = true := by decide +kernel
theorem e_q_next_268 : decode b_Mo_next 268 = .ok (.putfield 165, 3) := by decide +kernel
theorem f_q_next_88_2 : mblkB b_Mo_next [(88, .aload_n 0, vi 0), (89, .aload_n 0, vi 0)] = true := by decide +kernel
theorem e_q_next_90 : decode b_Mo_next 90 = .ok (.getfield 125, 3) := by decide +kernel
theorem e_q_next_93 : decode b_Mo_next 93 = .ok (.invokevirtual 135, 3) := by decide +kernel
theorem f_q_next_96_2 : mblkB b_Mo_next [(96, .bipush 97, vi 97), (98, .bipush 122, vi 122)] = true := by decide +kernel
theorem e_q_next_100 : decode b_Mo_next 100 = .ok (.invokestatic 108, 3) := by decide +kernel
theorem e_q_next_103 : decode b_Mo_next 103 = .ok (.ifCond .eq 16, 3) := by decide +kernel
theorem f_q_next_119_1 : mblkB b_Mo_next [(119, .aload_n 0, vi 0)] = true := by decide +kernel
theorem e_q_next_120 : decode b_Mo_next 120 = .ok (.getfield 125, 3) := by decide +kernel
theorem f_q_next_123_1 : mblkB b_Mo_next [(123, .aload_n 0, vi 0)] = true := by decide +kernel
theorem e_q_next_124 : decode b_Mo_next 124 = .ok (.getfield 128, 3) := by decide +kernel
theorem f_q_next_127_2 : mblkB b_Mo_next [(127, .isub, vi 0), (128, .iconst 1, vi 1)] = true := by decide +kernel
theorem e_q_next_129 : decode b_Mo_next 129 = .ok (.if_icmp .ne 13, 3) := by decide +kernel
theorem f_q_next_142_4 : mblkB b_Mo_next [(142, .iconst 0, vi 0), (143, .istore_n 2, vi 0), (144, .aload_n 0, vi 0), (145, .iload_n 2, vi 0)] = true := by decide +kernel
theorem e_q_next_146 : decode b_Mo_next 146 = .ok (.ifCond .eq 7, 3) := by decide +kernel
theorem f_q_next_153_1 : mblkB b_Mo_next [(153, .iconst 2, vi 2)] = true := by decide +kernel
theorem e_q_next_154 : decode b_Mo_next 154 = .ok (.putfield 159, 3) := by decide +kernel
theorem f_q_next_157_2 : mblkB b_Mo_next [(157, .aload_n 0, vi 0), (158, .iload_n 2, vi 0)] = true := by decide +kernel
theorem e_q_next_159 : decode b_Mo_next 159 = .ok (.ifCond .eq 10, 3) := by decide +kernel
theorem f_q_next_169_1 : mblkB b_Mo_next [(169, .aload_n 0, vi 0)] = true := by decide +kernel
theorem e_q_next_170 : decode b_Mo_next 170 = .ok (.invokevirtual 162, 3) := by decide +kernel
theorem e_q_next_173 : decode b_Mo_next 173 = .ok (.putfield 165, 3) := by decide +kernel
theorem f_q_next_176_2 : mblkB b_Mo_next [(176, .aload_n 0, vi 0), (177, .aload_n 0, vi 0)] = true := by decide +kernel
theorem e_q_next_178 : decode b_Mo_next 178 = .ok (.getfield 165, 3) := by decide +kernel
theorem f_q_next_181_1 : mblkB b_Mo_next [(181, .iconst (-1), vi (-1))] = true := by decide +kernel
theorem e_q_next_182 : decode b_Mo_next 182 = .ok (.if_icmp .ne 7, 3) := by decide +kernel
theorem f_q_next_189_1 : mblkB b_Mo_next [(189, .iconst 0, vi 0)] = true := by decide +kernel
theorem e_q_next_190 : decode b_Mo_next 190 = .ok (.putfield 155, 3) := by decide +kernel
theorem f_q_next_193_1 : mblkB b_Mo_next [(193, .goto 154, vi 347)] = true := by decide +kernel
theorem f_q_next_185_2 : mblkB b_Mo_next [(185, .iconst 1, vi 1), (186, .goto 4, vi 190)] = true := by decide +kernel
theorem f_q_next_132_2 : mblkB b_Mo_next [(132, .iload_n 1, vi 0), (133, .bipush 102, vi 102)] = true := by decide +kernel
theorem e_q_next_135 : decode b_Mo_next 135 = .ok (.if_icmp .gt 7, 3) := by decide +kernel
theorem f_q_next_138_2 : mblkB b_Mo_next [(138, .iconst 1, vi 1), (139, .goto 4, vi 143)] = true := by decide +kernel
theorem f_q_next_143_3 : mblkB b_Mo_next [(143, .istore_n 2, vi 0), (144, .aload_n 0, vi 0), (145, .iload_n 2, vi 0)] = true := by decide +kernel
theorem f_q_next_149_2 : mblkB b_Mo_next [(149, .iconst 1, vi 1), (150, .goto 4, vi 154)] = true := by decide +kernel
theorem f_q_next_162_4 : mblkB b_Mo_next [(162, .iload_n 1, vi 0), (163, .bipush 97, vi 97), (165, .isub, vi 0), (166, .goto 7, vi 173)] = true := by decide +kernel
theorem f_q_next_106_2 : mblkB b_Mo_next [(106, .aload_n 0, vi 0), (107, .dup, vi 0)] = true := by decide +kernel
theorem e_q_next_108 : decode b_Mo_next 108 = .ok (.getfield 125, 3) := by decide +kernel
theorem f_q_next_111_2 : mblkB b_Mo_next [(111, .iconst 1, vi 1), (112, .iadd, vi 0)] = true := by decide +kernel
theorem e_q_next_113 : decode b_Mo_next 113 = .ok (.putfield 125, 3) := by decide +kernel
theorem f_q_next_116_1 : mblkB b_Mo_next [(116, .goto (-28), vi 88)] = true := by decide +kernel
theorem f_q_next_69_2 : mblkB b_Mo_next [(69, .aload_n 0, vi 0), (70, .iconst 0, vi 0)] = true := by decide +kernel
theorem e_q_next_71 : decode b_Mo_next 71 = .ok (.putfield 159, 3) := by decide +kernel
theorem f_q_next_74_1 : mblkB b_Mo_next [(74, .goto 273, vi 347)] = true := by decide +kernel
theorem e_q_next_7 : decode b_Mo_next 7 = .ok (.return_, 1) := by decide +kernel
set_option maxHeartbeats 40000000 in
set_option maxRecDepth 100000 in
theorem q_next (l : Launch) (D : va_G) (B : Nat) (H0 : Heap) (ad : mAd) (A : mA) (hS : mStr D ad) (hT : mTy A)  (ha : A 0 0 23 ≤ A 0 0 22)  : mMet l D B H0 ad y_Mo_next b_Mo_next 3 none 6 240 [vr 0 0] A (fun v9 A9 => v9 = none ∧ mTy A9 ∧ mEq nm A A9 ∧ (A 0 0 31 = 1 → A9 = A) ∧ (A 0 0 31 = 0 → A 0 0 23 ≤ A9 0 0 24 ∧ A9 0 0 24 ≤ A9 0 0 23 ∧ A9 0 0 23 ≤ A9 0 0 22 ∧ (A9 0 0 31 = 0 → (A9 0 0 25 = 0 ∨ A9 0 0 24 < A9 0 0 23) ∧ (A9 0 0 25 = 2 → 0 ≤ A9 0 0 26 ∧ A9 0 0 26 ≤ 5)))) := by
  refine m_met (by decide) rfl (fun g w0 C Rm Y E => ?_)
  have hE0 : mEq nm A A := mEq.rfl'
  show JM g D ad w0 A 0 [(0, vr 0 0)] []
  have rt : A 0 0 22 ≤ 120 := (hT 0 0 22).2
  refine m_blk 1 [(0, vr 0 0)] [vr 0 0] C f_q_next_0_1 rfl ?_
  obtain ⟨x1, hx1⟩ : ∃ x, A 0 0 31 = x := ⟨_, rfl⟩
  have rx1 : 0 ≤ x1 ∧ x1 ≤ 1 := mrg hT hx1 rfl
  refine m_geti C e_q_next_1 fg_Mo_155 rfl (by decide) rfl x1 hx1 ?_
  refine m_if_eq (tgt := 8) C e_q_next_4 (by decide) (by omega) (fun c2 => ?_) (fun c2 => ?_)
  · have hd_8 : ∀ (N : Nat) (A1 : mA), mTy A1 → mEq nm A A1 → A 0 0 23 ≤ A1 0 0 23 ∧ A1 0 0 23 ≤ A1 0 0 22 ∧ A1 0 0 22 ≤ 120 → A1 0 0 31 = 0 → (200 - A1 0 0 23) < (N : Int) → JM g D ad w0 A1 8 [(0, vr 0 0)] [] := by
      intro N
      induction N with
      | zero => intro A1 hT1 hE1 i1 i2 hm; exact absurd hm (by omega)
      | succ N ih =>
        intro A1 hT1 hE1 i1 i2 hm
        refine m_blk 10 [(0, vr 0 0)] [vr 0 0, vr 0 0] C f_q_next_8_2 rfl ?_
        obtain ⟨x3, hx3⟩ : ∃ x, A1 0 0 23 = x := ⟨_, rfl⟩
        have rx3 : 0 ≤ x3 ∧ x3 ≤ 120 := mrg hT1 hx3 rfl
        refine m_geti C e_q_next_10 fg_Mo_125 rfl (by decide) rfl x3 hx3 ?_
        refine m_callV C Rm Y [vi x3] [] (q_byteAt l D B H0 ad _ hT1 x3 (by show 0 ≤ x3 ∧ x3 ≤ 2147483647; omega)) cl_Mo_135 rfl (by decide) rfl rfl e_q_next_13 rfl rfl rfl ⟨by decide, by decide⟩ ?_
        rintro v4 A5 ⟨z8, rfl, rfl, raw_hz_n7⟩
        have hz_n7 : A1 0 0 22 ≤ x3 ∧ z8 = -1 ∨ x3 < A1 0 0 22 ∧ 0 ≤ z8 ∧ z8 ≤ 255 ∧ z8 = A1 9 0 (Int.toNat x3) := raw_hz_n7
        show JM g D ad w0 A1 16 [(0, vr 0 0)] [vi z8]
        refine m_blk 18 [(0, vr 0 0)] [vi 32, vi z8] C f_q_next_16_1 rfl ?_
        refine m_icmp_eq (tgt := 34) C e_q_next_18 (by decide) (by omega) (by decide) (fun c9 => ?_) (fun c9 => ?_)
        · refine m_blk 36 [(0, vr 0 0)] [vr 0 0, vr 0 0] C f_q_next_34_2 rfl ?_
          refine m_geti C e_q_next_36 fg_Mo_125 rfl (by decide) rfl x3 hx3 ?_
          refine m_blk 41 [(0, vr 0 0)] [vi (x3 + 1), vr 0 0] C f_q_next_39_2 rfl ?_
          refine m_puti C e_q_next_41 fp_Mo_125 rfl (by decide) rfl ?_
          have t10 : mTy (mu A1 0 0 23 (x3 + 1)) := hT1.mu (by show 0 ≤ (x3 + 1) ∧ (x3 + 1) ≤ 120; omega)
          have q11 := hE1.mu (f := 0) (k := 0) (j := 23) (z := (x3 + 1)) (by simp [nm])
          refine m_blk 8 [(0, vr 0 0)] [] C f_q_next_44_1 rfl ?_
          refine m_loc [(0, vr 0 0)] ⟨rfl, trivial⟩ ?_
          exact ih (mu A1 0 0 23 (x3 + 1)) t10 q11 (by show A 0 0 23 ≤ (x3 + 1) ∧ (x3 + 1) ≤ A1 0 0 22 ∧ A1 0 0 22 ≤ 120; omega) (by show A1 0 0 31 = 0; omega) (by have hm9 := hm; show (200 - (x3 + 1)) < _; omega)
        · refine m_blk 23 [(0, vr 0 0)] [vr 0 0, vr 0 0] C f_q_next_21_2 rfl ?_
          refine m_geti C e_q_next_23 fg_Mo_125 rfl (by decide) rfl x3 hx3 ?_
          refine m_callV C Rm Y [vi x3] [] (q_byteAt l D B H0 ad _ hT1 x3 (by show 0 ≤ x3 ∧ x3 ≤ 2147483647; omega)) cl_Mo_135 rfl (by decide) rfl rfl e_q_next_26 rfl rfl rfl ⟨by decide, by decide⟩ ?_
          rintro v12 A13 ⟨z16, rfl, rfl, raw_hz_n15⟩
          have hz_n15 : A1 0 0 22 ≤ x3 ∧ z16 = -1 ∨ x3 < A1 0 0 22 ∧ 0 ≤ z16 ∧ z16 ≤ 255 ∧ z16 = A1 9 0 (Int.toNat x3) := raw_hz_n15
          show JM g D ad w0 A1 29 [(0, vr 0 0)] [vi z16]
          refine m_blk 31 [(0, vr 0 0)] [vi 10, vi z16] C f_q_next_29_1 rfl ?_
          refine m_icmp_ne (tgt := 47) C e_q_next_31 (by decide) (by omega) (by decide) (fun c17 => ?_) (fun c17 => ?_)
          · refine m_blk 49 [(0, vr 0 0)] [vr 0 0, vr 0 0] C f_q_next_47_2 rfl ?_
            refine m_geti C e_q_next_49 fg_Mo_125 rfl (by decide) rfl x3 hx3 ?_
            refine m_puti C e_q_next_52 fp_Mo_128 rfl (by decide) rfl ?_
            have t18 : mTy (mu A1 0 0 24 x3) := hT1.mu (by show 0 ≤ x3 ∧ x3 ≤ 120; omega)
            have q19 := hE1.mu (f := 0) (k := 0) (j := 24) (z := x3) (by simp [nm])
            refine m_blk 57 [(0, vr 0 0)] [vr 0 0, vr 0 0] C f_q_next_55_2 rfl ?_
            refine m_geti C e_q_next_57 fg_Mo_125 rfl (by decide) rfl x3 hx3 ?_
            refine m_callV C Rm Y [vi x3] [] (q_byteAt l D B H0 ad _ t18 x3 (by show 0 ≤ x3 ∧ x3 ≤ 2147483647; omega)) cl_Mo_135 rfl (by decide) rfl rfl e_q_next_60 rfl rfl rfl ⟨by decide, by decide⟩ ?_
            rintro v20 A21 ⟨z24, rfl, rfl, raw_hz_n23⟩
            have hz_n23 : A1 0 0 22 ≤ x3 ∧ z24 = -1 ∨ x3 < A1 0 0 22 ∧ 0 ≤ z24 ∧ z24 ≤ 255 ∧ z24 = A1 9 0 (Int.toNat x3) := raw_hz_n23
            show JM g D ad w0 (mu A1 0 0 24 x3) 63 [(0, vr 0 0)] [vi z24]
            refine m_blk 66 [(1, vi z24), (0, vr 0 0)] [vi (-1), vi z24] C f_q_next_63_3 rfl ?_
            refine m_icmp_ne (tgt := 77) C e_q_next_66 (by decide) (by omega) (by decide) (fun c25 => ?_) (fun c25 => ?_)
            · refine m_blk 82 [(1, vi z24), (0, vr 0 0)] [vi 122, vi 97, vi z24] C f_q_next_77_3 rfl ?_
              refine m_callS C Rm Y [vi z24, vi 97, vi 122] [] (q_in l D B H0 ad _ z24 97 122 (by omega) (by decide) (by decide)) cl_Mo_108 e_q_next_82 rfl rfl rfl ⟨by decide, by decide⟩ ?_
              rintro v26 A27 ⟨z29, rfl, rfl, hz29⟩
              show JM g D ad w0 (mu A1 0 0 24 x3) 85 [(1, vi z24), (0, vr 0 0)] [vi z29]
              refine m_if_eq (tgt := 196) C e_q_next_85 (by decide) (by omega) (fun c30 => ?_) (fun c30 => ?_)
              · refine m_blk 201 [(1, vi z24), (0, vr 0 0)] [vi 57, vi 48, vi z24] C f_q_next_196_3 rfl ?_
                refine m_callS C Rm Y [vi z24, vi 48, vi 57] [] (q_in l D B H0 ad _ z24 48 57 (by omega) (by decide) (by decide)) cl_Mo_108 e_q_next_201 rfl rfl rfl ⟨by decide, by decide⟩ ?_
                rintro v31 A32 ⟨z34, rfl, rfl, hz34⟩
                show JM g D ad w0 (mu A1 0 0 24 x3) 204 [(1, vi z24), (0, vr 0 0)] [vi z34]
                refine m_if_eq (tgt := 309) C e_q_next_204 (by decide) (by omega) (fun c35 => ?_) (fun c35 => ?_)
                · refine m_blk 311 [(1, vi z24), (0, vr 0 0)] [vi 4, vr 0 0] C f_q_next_309_2 rfl ?_
                  refine m_puti C e_q_next_311 fp_Mo_159 rfl (by decide) rfl ?_
                  have t36 : mTy (mu (mu A1 0 0 24 x3) 0 0 25 4) := t18.mu (by show 0 ≤ 4 ∧ 4 ≤ 4; omega)
                  have q37 := q19.mu (f := 0) (k := 0) (j := 25) (z := 4) (by simp [nm])
                  refine m_blk 316 [(1, vi z24), (0, vr 0 0)] [vi z24, vr 0 0] C f_q_next_314_2 rfl ?_
                  refine m_puti C e_q_next_316 fp_Mo_165 rfl (by decide) rfl ?_
                  have t38 : mTy (mu (mu (mu A1 0 0 24 x3) 0 0 25 4) 0 0 26 z24) := t36.mu (by show (-1) ≤ z24 ∧ z24 ≤ 255; omega)
                  have q39 := q37.mu (f := 0) (k := 0) (j := 26) (z := z24) (by simp [nm])
                  refine m_blk 321 [(1, vi z24), (0, vr 0 0)] [vr 0 0, vr 0 0] C f_q_next_319_2 rfl ?_
                  refine m_geti C e_q_next_321 fg_Mo_125 rfl (by decide) rfl x3 hx3 ?_
                  refine m_blk 326 [(1, vi z24), (0, vr 0 0)] [vi (x3 + 1), vr 0 0] C f_q_next_324_2 rfl ?_
                  refine m_puti C e_q_next_326 fp_Mo_125 rfl (by decide) rfl ?_
                  have t40 : mTy (mu (mu (mu (mu A1 0 0 24 x3) 0 0 25 4) 0 0 26 z24) 0 0 23 (x3 + 1)) := t38.mu (by show 0 ≤ (x3 + 1) ∧ (x3 + 1) ≤ 120; omega)
                  have q41 := q39.mu (f := 0) (k := 0) (j := 23) (z := (x3 + 1)) (by simp [nm])
                  refine m_blk 330 [(1, vi z24), (0, vr 0 0)] [vr 0 0] C f_q_next_329_1 rfl ?_
                  refine m_ldcS (i := 12) C hS (by decide) rfl e_q_next_330 ?_
                  refine m_blk 333 [(1, vi z24), (0, vr 0 0)] [vi z24, vr 90 12, vr 0 0] C f_q_next_332_1 rfl ?_
                  refine m_index C Rm Y hS [vr 0 0] (by decide) cl_Mo_170 e_q_next_333 rfl ⟨by decide, by decide⟩ (fun z42 hz42 => ?_)
                  refine m_if_ge (tgt := 343) C e_q_next_336 (by decide) (by omega) (fun c43 => ?_) (fun c43 => ?_)
                  · refine m_blk 344 [(1, vi z24), (0, vr 0 0)] [vi 0, vr 0 0] C f_q_next_343_1 rfl ?_
                    refine m_putz C e_q_next_344 fp_Mo_155 rfl (by decide) rfl (Or.inl rfl) ?_
                    have t44 : mTy (mu (mu (mu (mu (mu A1 0 0 24 x3) 0 0 25 4) 0 0 26 z24) 0 0 23 (x3 + 1)) 0 0 31 0) := t40.mu (by show 0 ≤ 0 ∧ 0 ≤ 1; omega)
                    have q45 := q41.mu (f := 0) (k := 0) (j := 31) (z := 0) (by simp [nm])
                    exact m_vret C Rm E e_q_next_347 ⟨rfl, t44, q45, (fun h9 => absurd h9 (by omega)), (by show A 0 0 31 = 0 → A 0 0 23 ≤ x3 ∧ x3 ≤ (x3 + 1) ∧ (x3 + 1) ≤ A1 0 0 22 ∧ (0 = 0 → (4 = 0 ∨ x3 < (x3 + 1)) ∧ (4 = 2 → 0 ≤ z24 ∧ z24 ≤ 5)); omega)⟩
                  · refine m_blk 344 [(1, vi z24), (0, vr 0 0)] [vi 1, vr 0 0] C f_q_next_339_2 rfl ?_
                    refine m_putz C e_q_next_344 fp_Mo_155 rfl (by decide) rfl (Or.inr rfl) ?_
                    have t46 : mTy (mu (mu (mu (mu (mu A1 0 0 24 x3) 0 0 25 4) 0 0 26 z24) 0 0 23 (x3 + 1)) 0 0 31 1) := t40.mu (by show 0 ≤ 1 ∧ 1 ≤ 1; omega)
                    have q47 := q41.mu (f := 0) (k := 0) (j := 31) (z := 1) (by simp [nm])
                    exact m_vret C Rm E e_q_next_347 ⟨rfl, t46, q47, (fun h9 => absurd h9 (by omega)), (by show A 0 0 31 = 0 → A 0 0 23 ≤ x3 ∧ x3 ≤ (x3 + 1) ∧ (x3 + 1) ≤ A1 0 0 22 ∧ (1 = 0 → (4 = 0 ∨ x3 < (x3 + 1)) ∧ (4 = 2 → 0 ≤ z24 ∧ z24 ≤ 5)); omega)⟩
                · refine m_blk 209 [(1, vi z24), (0, vr 0 0)] [vi 3, vr 0 0] C f_q_next_207_2 rfl ?_
                  refine m_puti C e_q_next_209 fp_Mo_159 rfl (by decide) rfl ?_
                  have t48 : mTy (mu (mu A1 0 0 24 x3) 0 0 25 3) := t18.mu (by show 0 ≤ 3 ∧ 3 ≤ 4; omega)
                  have q49 := q19.mu (f := 0) (k := 0) (j := 25) (z := 3) (by simp [nm])
                  refine m_blk 214 [(1, vi z24), (0, vr 0 0)] [vi 0, vr 0 0] C f_q_next_212_2 rfl ?_
                  refine m_puti C e_q_next_214 fp_Mo_165 rfl (by decide) rfl ?_
                  have t50 : mTy (mu (mu (mu A1 0 0 24 x3) 0 0 25 3) 0 0 26 0) := t48.mu (by show (-1) ≤ 0 ∧ 0 ≤ 255; omega)
                  have q51 := q49.mu (f := 0) (k := 0) (j := 26) (z := 0) (by simp [nm])
                  refine m_blk 219 [(1, vi z24), (0, vr 0 0)] [vr 0 0, vr 0 0] C f_q_next_217_2 rfl ?_
                  refine m_geti C e_q_next_219 fg_Mo_125 rfl (by decide) rfl x3 hx3 ?_
                  refine m_callV C Rm Y [vi x3] [] (q_byteAt l D B H0 ad _ t50 x3 (by show 0 ≤ x3 ∧ x3 ≤ 2147483647; omega)) cl_Mo_135 rfl (by decide) rfl rfl e_q_next_222 rfl rfl rfl ⟨by decide, by decide⟩ ?_
                  rintro v52 A53 ⟨z56, rfl, rfl, raw_hz_n55⟩
                  have hz_n55 : A1 0 0 22 ≤ x3 ∧ z56 = -1 ∨ x3 < A1 0 0 22 ∧ 0 ≤ z56 ∧ z56 ≤ 255 ∧ z56 = A1 9 0 (Int.toNat x3) := raw_hz_n55
                  show JM g D ad w0 (mu (mu (mu A1 0 0 24 x3) 0 0 25 3) 0 0 26 0) 225 [(1, vi z24), (0, vr 0 0)] [vi z56]
                  refine m_blk 229 [(1, vi z24), (0, vr 0 0)] [vi 57, vi 48, vi z56] C f_q_next_225_2 rfl ?_
                  refine m_callS C Rm Y [vi z56, vi 48, vi 57] [] (q_in l D B H0 ad _ z56 48 57 (by omega) (by decide) (by decide)) cl_Mo_108 e_q_next_229 rfl rfl rfl ⟨by decide, by decide⟩ ?_
                  rintro v57 A58 ⟨z60, rfl, rfl, hz60⟩
                  show JM g D ad w0 (mu (mu (mu A1 0 0 24 x3) 0 0 25 3) 0 0 26 0) 232 [(1, vi z24), (0, vr 0 0)] [vi z60]
                  refine m_if_eq (tgt := 284) C e_q_next_232 (by decide) (by omega) (fun c61 => ?_) (fun c61 => ?_)
                  · refine m_blk 286 [(1, vi z24), (0, vr 0 0)] [vr 0 0, vr 0 0] C f_q_next_284_2 rfl ?_
                    refine m_geti C e_q_next_286 fg_Mo_125 rfl (by decide) rfl x3 hx3 ?_
                    refine m_blk 290 [(1, vi z24), (0, vr 0 0)] [vr 0 0, vi x3, vr 0 0] C f_q_next_289_1 rfl ?_
                    refine m_geti C e_q_next_290 fg_Mo_128 rfl (by decide) rfl x3 rfl ?_
                    refine m_blk 295 [(1, vi z24), (0, vr 0 0)] [vi 2, vi (x3 - x3), vr 0 0] C f_q_next_293_2 rfl ?_
                    refine m_icmp_le (tgt := 302) C e_q_next_295 (by decide) (by omega) (by decide) (fun c62 => ?_) (fun c62 => ?_)
                    · refine m_blk 303 [(1, vi z24), (0, vr 0 0)] [vi 0, vr 0 0] C f_q_next_302_1 rfl ?_
                      refine m_putz C e_q_next_303 fp_Mo_155 rfl (by decide) rfl (Or.inl rfl) ?_
                      have t63 : mTy (mu (mu (mu (mu A1 0 0 24 x3) 0 0 25 3) 0 0 26 0) 0 0 31 0) := t50.mu (by show 0 ≤ 0 ∧ 0 ≤ 1; omega)
                      have q64 := q51.mu (f := 0) (k := 0) (j := 31) (z := 0) (by simp [nm])
                      refine m_blk 347 [(1, vi z24), (0, vr 0 0)] [] C f_q_next_306_1 rfl ?_
                      exact m_vret C Rm E e_q_next_347 ⟨rfl, t63, q64, (fun h9 => absurd h9 (by omega)), (by show A 0 0 31 = 0 → A 0 0 23 ≤ x3 ∧ x3 ≤ A1 0 0 23 ∧ A1 0 0 23 ≤ A1 0 0 22 ∧ (0 = 0 → (3 = 0 ∨ x3 < A1 0 0 23) ∧ (3 = 2 → 0 ≤ 0 ∧ 0 ≤ 5)); omega)⟩
                    · refine m_blk 303 [(1, vi z24), (0, vr 0 0)] [vi 1, vr 0 0] C f_q_next_298_2 rfl ?_
                      refine m_putz C e_q_next_303 fp_Mo_155 rfl (by decide) rfl (Or.inr rfl) ?_
                      have t65 : mTy (mu (mu (mu (mu A1 0 0 24 x3) 0 0 25 3) 0 0 26 0) 0 0 31 1) := t50.mu (by show 0 ≤ 1 ∧ 1 ≤ 1; omega)
                      have q66 := q51.mu (f := 0) (k := 0) (j := 31) (z := 1) (by simp [nm])
                      refine m_blk 347 [(1, vi z24), (0, vr 0 0)] [] C f_q_next_306_1 rfl ?_
                      exact m_vret C Rm E e_q_next_347 ⟨rfl, t65, q66, (fun h9 => absurd h9 (by omega)), (by show A 0 0 31 = 0 → A 0 0 23 ≤ x3 ∧ x3 ≤ A1 0 0 23 ∧ A1 0 0 23 ≤ A1 0 0 22 ∧ (1 = 0 → (3 = 0 ∨ x3 < A1 0 0 23) ∧ (3 = 2 → 0 ≤ 0 ∧ 0 ≤ 5)); omega)⟩
                  · refine m_blk 236 [(1, vi z24), (0, vr 0 0)] [vr 0 0] C f_q_next_235_1 rfl ?_
                    refine m_geti C e_q_next_236 fg_Mo_125 rfl (by decide) rfl x3 hx3 ?_
                    refine m_blk 240 [(1, vi z24), (0, vr 0 0)] [vr 0 0, vi x3] C f_q_next_239_1 rfl ?_
                    refine m_geti C e_q_next_240 fg_Mo_128 rfl (by decide) rfl x3 rfl ?_
                    refine m_blk 245 [(1, vi z24), (0, vr 0 0)] [vi 2, vi (x3 - x3)] C f_q_next_243_2 rfl ?_
                    refine m_icmp_ge (tgt := 271) C e_q_next_245 (by decide) (by omega) (by decide) (fun c67 => ?_) (fun c67 => ?_)
                    · refine m_blk 273 [(1, vi z24), (0, vr 0 0)] [vr 0 0, vr 0 0] C f_q_next_271_2 rfl ?_
                      refine m_geti C e_q_next_273 fg_Mo_125 rfl (by decide) rfl x3 hx3 ?_
                      refine m_blk 278 [(1, vi z24), (0, vr 0 0)] [vi (x3 + 1), vr 0 0] C f_q_next_276_2 rfl ?_
                      refine m_puti C e_q_next_278 fp_Mo_125 rfl (by decide) rfl ?_
                      have t68 : mTy (mu (mu (mu (mu A1 0 0 24 x3) 0 0 25 3) 0 0 26 0) 0 0 23 (x3 + 1)) := t50.mu (by show 0 ≤ (x3 + 1) ∧ (x3 + 1) ≤ 120; omega)
                      have q69 := q51.mu (f := 0) (k := 0) (j := 23) (z := (x3 + 1)) (by simp [nm])
                      refine m_blk 217 [(1, vi z24), (0, vr 0 0)] [] C f_q_next_281_1 rfl ?_
                      have hd_217 : ∀ (N : Nat) (A3 : mA) (c : Int), mTy A3 → mEq nm A A3 → A 0 0 23 ≤ A3 0 0 24 ∧ A3 0 0 24 < A3 0 0 23 ∧ A3 0 0 23 ≤ A3 0 0 22 ∧ A3 0 0 22 ≤ 120 → A3 0 0 31 = 0 → 0 ≤ A3 0 0 26 ∧ A3 0 0 26 ≤ 99 ∧ (A3 0 0 23 = A3 0 0 24 + 1 → A3 0 0 26 ≤ 9) → A3 0 0 25 = 3 → (200 - A3 0 0 23) < (N : Int) → JM g D ad w0 A3 217 [(1, vi c), (0, vr 0 0)] [] := by
                        intro N
                        induction N with
                        | zero => intro A3 c hT3 hE3 j1 j2 j3 j4 hm; exact absurd hm (by omega)
                        | succ N ih =>
                          intro A3 c hT3 hE3 j1 j2 j3 j4 hm
                          refine m_blk 219 [(1, vi c), (0, vr 0 0)] [vr 0 0, vr 0 0] C f_q_next_217_2 rfl ?_
                          obtain ⟨x70, hx70⟩ : ∃ x, A3 0 0 23 = x := ⟨_, rfl⟩
                          have rx70 : 0 ≤ x70 ∧ x70 ≤ 120 := mrg hT3 hx70 rfl
                          refine m_geti C e_q_next_219 fg_Mo_125 rfl (by decide) rfl x70 hx70 ?_
                          refine m_callV C Rm Y [vi x70] [] (q_byteAt l D B H0 ad _ hT3 x70 (by show 0 ≤ x70 ∧ x70 ≤ 2147483647; omega)) cl_Mo_135 rfl (by decide) rfl rfl e_q_next_222 rfl rfl rfl ⟨by decide, by decide⟩ ?_
                          rintro v71 A72 ⟨z75, rfl, rfl, raw_hz_n74⟩
                          have hz_n74 : A3 0 0 22 ≤ x70 ∧ z75 = -1 ∨ x70 < A3 0 0 22 ∧ 0 ≤ z75 ∧ z75 ≤ 255 ∧ z75 = A3 9 0 (Int.toNat x70) := raw_hz_n74
                          show JM g D ad w0 A3 225 [(1, vi c), (0, vr 0 0)] [vi z75]
                          refine m_blk 229 [(1, vi c), (0, vr 0 0)] [vi 57, vi 48, vi z75] C f_q_next_225_2 rfl ?_
                          refine m_callS C Rm Y [vi z75, vi 48, vi 57] [] (q_in l D B H0 ad _ z75 48 57 (by omega) (by decide) (by decide)) cl_Mo_108 e_q_next_229 rfl rfl rfl ⟨by decide, by decide⟩ ?_
                          rintro v76 A77 ⟨z79, rfl, rfl, hz79⟩
                          show JM g D ad w0 A3 232 [(1, vi c), (0, vr 0 0)] [vi z79]
                          refine m_if_eq (tgt := 284) C e_q_next_232 (by decide) (by omega) (fun c80 => ?_) (fun c80 => ?_)
                          · refine m_blk 286 [(1, vi c), (0, vr 0 0)] [vr 0 0, vr 0 0] C f_q_next_284_2 rfl ?_
                            refine m_geti C e_q_next_286 fg_Mo_125 rfl (by decide) rfl x70 hx70 ?_
                            refine m_blk 290 [(1, vi c), (0, vr 0 0)] [vr 0 0, vi x70, vr 0 0] C f_q_next_289_1 rfl ?_
                            obtain ⟨x81, hx81⟩ : ∃ x, A3 0 0 24 = x := ⟨_, rfl⟩
                            have rx81 : 0 ≤ x81 ∧ x81 ≤ 120 := mrg hT3 hx81 rfl
                            refine m_geti C e_q_next_290 fg_Mo_128 rfl (by decide) rfl x81 hx81 ?_
                            refine m_blk 295 [(1, vi c), (0, vr 0 0)] [vi 2, vi (x70 - x81), vr 0 0] C f_q_next_293_2 rfl ?_
                            refine m_icmp_le (tgt := 302) C e_q_next_295 (by decide) (by omega) (by decide) (fun c82 => ?_) (fun c82 => ?_)
                            · refine m_blk 303 [(1, vi c), (0, vr 0 0)] [vi 0, vr 0 0] C f_q_next_302_1 rfl ?_
                              refine m_putz C e_q_next_303 fp_Mo_155 rfl (by decide) rfl (Or.inl rfl) ?_
                              have t83 : mTy (mu A3 0 0 31 0) := hT3.mu (by show 0 ≤ 0 ∧ 0 ≤ 1; omega)
                              have q84 := hE3.mu (f := 0) (k := 0) (j := 31) (z := 0) (by simp [nm])
                              refine m_blk 347 [(1, vi c), (0, vr 0 0)] [] C f_q_next_306_1 rfl ?_
                              exact m_vret C Rm E e_q_next_347 ⟨rfl, t83, q84, (fun h9 => absurd h9 (by omega)), (by show A 0 0 31 = 0 → A 0 0 23 ≤ A3 0 0 24 ∧ A3 0 0 24 ≤ A3 0 0 23 ∧ A3 0 0 23 ≤ A3 0 0 22 ∧ (0 = 0 → (A3 0 0 25 = 0 ∨ A3 0 0 24 < A3 0 0 23) ∧ (A3 0 0 25 = 2 → 0 ≤ A3 0 0 26 ∧ A3 0 0 26 ≤ 5)); omega)⟩
                            · refine m_blk 303 [(1, vi c), (0, vr 0 0)] [vi 1, vr 0 0] C f_q_next_298_2 rfl ?_
                              refine m_putz C e_q_next_303 fp_Mo_155 rfl (by decide) rfl (Or.inr rfl) ?_
                              have t85 : mTy (mu A3 0 0 31 1) := hT3.mu (by show 0 ≤ 1 ∧ 1 ≤ 1; omega)
                              have q86 := hE3.mu (f := 0) (k := 0) (j := 31) (z := 1) (by simp [nm])
                              refine m_blk 347 [(1, vi c), (0, vr 0 0)] [] C f_q_next_306_1 rfl ?_
                              exact m_vret C Rm E e_q_next_347 ⟨rfl, t85, q86, (fun h9 => absurd h9 (by omega)), (by show A 0 0 31 = 0 → A 0 0 23 ≤ A3 0 0 24 ∧ A3 0 0 24 ≤ A3 0 0 23 ∧ A3 0 0 23 ≤ A3 0 0 22 ∧ (1 = 0 → (A3 0 0 25 = 0 ∨ A3 0 0 24 < A3 0 0 23) ∧ (A3 0 0 25 = 2 → 0 ≤ A3 0 0 26 ∧ A3 0 0 26 ≤ 5)); omega)⟩
                          · refine m_blk 236 [(1, vi c), (0, vr 0 0)] [vr 0 0] C f_q_next_235_1 rfl ?_
                            refine m_geti C e_q_next_236 fg_Mo_125 rfl (by decide) rfl x70 hx70 ?_
                            refine m_blk 240 [(1, vi c), (0, vr 0 0)] [vr 0 0, vi x70] C f_q_next_239_1 rfl ?_
                            obtain ⟨x87, hx87⟩ : ∃ x, A3 0 0 24 = x := ⟨_, rfl⟩
                            have rx87 : 0 ≤ x87 ∧ x87 ≤ 120 := mrg hT3 hx87 rfl
                            refine m_geti C e_q_next_240 fg_Mo_128 rfl (by decide) rfl x87 hx87 ?_
                            refine m_blk 245 [(1, vi c), (0, vr 0 0)] [vi 2, vi (x70 - x87)] C f_q_next_243_2 rfl ?_
                            refine m_icmp_ge (tgt := 271) C e_q_next_245 (by decide) (by omega) (by decide) (fun c88 => ?_) (fun c88 => ?_)
                            · refine m_blk 273 [(1, vi c), (0, vr 0 0)] [vr 0 0, vr 0 0] C f_q_next_271_2 rfl ?_
                              refine m_geti C e_q_next_273 fg_Mo_125 rfl (by decide) rfl x70 hx70 ?_
                              refine m_blk 278 [(1, vi c), (0, vr 0 0)] [vi (x70 + 1), vr 0 0] C f_q_next_276_2 rfl ?_
                              refine m_puti C e_q_next_278 fp_Mo_125 rfl (by decide) rfl ?_
                              have t89 : mTy (mu A3 0 0 23 (x70 + 1)) := hT3.mu (by show 0 ≤ (x70 + 1) ∧ (x70 + 1) ≤ 120; omega)
                              have q90 := hE3.mu (f := 0) (k := 0) (j := 23) (z := (x70 + 1)) (by simp [nm])
                              refine m_blk 217 [(1, vi c), (0, vr 0 0)] [] C f_q_next_281_1 rfl ?_
                              refine m_loc [(1, vi c), (0, vr 0 0)] ⟨rfl, rfl, trivial⟩ ?_
                              exact ih (mu A3 0 0 23 (x70 + 1)) c t89 q90 (by show A 0 0 23 ≤ A3 0 0 24 ∧ A3 0 0 24 < (x70 + 1) ∧ (x70 + 1) ≤ A3 0 0 22 ∧ A3 0 0 22 ≤ 120; omega) (by show A3 0 0 31 = 0; omega) (by show 0 ≤ A3 0 0 26 ∧ A3 0 0 26 ≤ 99 ∧ ((x70 + 1) = A3 0 0 24 + 1 → A3 0 0 26 ≤ 9); omega) (by show A3 0 0 25 = 3; omega) (by have hm9 := hm; show (200 - (x70 + 1)) < _; omega)
                            · refine m_blk 252 [(1, vi c), (0, vr 0 0)] [vr 0 0, vi 10, vr 0 0] C f_q_next_248_3 rfl ?_
                              obtain ⟨x91, hx91⟩ : ∃ x, A3 0 0 26 = x := ⟨_, rfl⟩
                              have rx91 : (-1) ≤ x91 ∧ x91 ≤ 255 := mrg hT3 hx91 rfl
                              refine m_geti C e_q_next_252 fg_Mo_165 rfl (by decide) rfl x91 hx91 ?_
                              refine m_blk 258 [(1, vi c), (0, vr 0 0)] [vr 0 0, vr 0 0, vi (10 * x91), vr 0 0] C f_q_next_255_3 rfl ?_
                              refine m_geti C e_q_next_258 fg_Mo_125 rfl (by decide) rfl x70 hx70 ?_
                              refine m_callV C Rm Y [vi x70] [vi (10 * x91), vr 0 0] (q_byteAt l D B H0 ad _ hT3 x70 (by show 0 ≤ x70 ∧ x70 ≤ 2147483647; omega)) cl_Mo_135 rfl (by decide) rfl rfl e_q_next_261 rfl rfl rfl ⟨by decide, by decide⟩ ?_
                              rintro v92 A93 ⟨z96, rfl, rfl, raw_hz_n95⟩
                              have hz_n95 : A3 0 0 22 ≤ x70 ∧ z96 = -1 ∨ x70 < A3 0 0 22 ∧ 0 ≤ z96 ∧ z96 ≤ 255 ∧ z96 = A3 9 0 (Int.toNat x70) := raw_hz_n95
                              show JM g D ad w0 A3 264 [(1, vi c), (0, vr 0 0)] [vi z96, vi (10 * x91), vr 0 0]
                              refine m_blk 268 [(1, vi c), (0, vr 0 0)] [vi (((10 * x91) + z96) - 48), vr 0 0] C f_q_next_264_3 rfl ?_
                              refine m_puti C e_q_next_268 fp_Mo_165 rfl (by decide) rfl ?_
                              have t97 : mTy (mu A3 0 0 26 (((10 * x91) + z96) - 48)) := hT3.mu (by show (-1) ≤ (((10 * x91) + z96) - 48) ∧ (((10 * x91) + z96) - 48) ≤ 255; omega)
                              have q98 := hE3.mu (f := 0) (k := 0) (j := 26) (z := (((10 * x91) + z96) - 48)) (by simp [nm])
                              refine m_blk 273 [(1, vi c), (0, vr 0 0)] [vr 0 0, vr 0 0] C f_q_next_271_2 rfl ?_
                              refine m_geti C e_q_next_273 fg_Mo_125 rfl (by decide) rfl x70 hx70 ?_
                              refine m_blk 278 [(1, vi c), (0, vr 0 0)] [vi (x70 + 1), vr 0 0] C f_q_next_276_2 rfl ?_
                              refine m_puti C e_q_next_278 fp_Mo_125 rfl (by decide) rfl ?_
                              have t99 : mTy (mu (mu A3 0 0 26 (((10 * x91) + z96) - 48)) 0 0 23 (x70 + 1)) := t97.mu (by show 0 ≤ (x70 + 1) ∧ (x70 + 1) ≤ 120; omega)
                              have q100 := q98.mu (f := 0) (k := 0) (j := 23) (z := (x70 + 1)) (by simp [nm])
                              refine m_blk 217 [(1, vi c), (0, vr 0 0)] [] C f_q_next_281_1 rfl ?_
                              refine m_loc [(1, vi c), (0, vr 0 0)] ⟨rfl, rfl, trivial⟩ ?_
                              exact ih (mu (mu A3 0 0 26 (((10 * x91) + z96) - 48)) 0 0 23 (x70 + 1)) c t99 q100 (by show A 0 0 23 ≤ A3 0 0 24 ∧ A3 0 0 24 < (x70 + 1) ∧ (x70 + 1) ≤ A3 0 0 22 ∧ A3 0 0 22 ≤ 120; omega) (by show A3 0 0 31 = 0; omega) (by show 0 ≤ (((10 * x91) + z96) - 48) ∧ (((10 * x91) + z96) - 48) ≤ 99 ∧ ((x70 + 1) = A3 0 0 24 + 1 → (((10 * x91) + z96) - 48) ≤ 9); omega) (by show A3 0 0 25 = 3; omega) (by have hm9 := hm; show (200 - (x70 + 1)) < _; omega)
                      refine m_loc [(1, vi z24), (0, vr 0 0)] ⟨rfl, rfl, trivial⟩ ?_
                      exact hd_217 (Int.toNat ((200 - (x3 + 1))) + 1) (mu (mu (mu (mu A1 0 0 24 x3) 0 0 25 3) 0 0 26 0) 0 0 23 (x3 + 1)) z24 t68 q69 (by show A 0 0 23 ≤ x3 ∧ x3 < (x3 + 1) ∧ (x3 + 1) ≤ A1 0 0 22 ∧ A1 0 0 22 ≤ 120; omega) (by show A1 0 0 31 = 0; omega) (by show 0 ≤ 0 ∧ 0 ≤ 99 ∧ ((x3 + 1) = x3 + 1 → 0 ≤ 9); omega) (by show 3 = 3; omega) (by show (200 - (x3 + 1)) < _; omega)
                    · refine m_blk 252 [(1, vi z24), (0, vr 0 0)] [vr 0 0, vi 10, vr 0 0] C f_q_next_248_3 rfl ?_
                      refine m_geti C e_q_next_252 fg_Mo_165 rfl (by decide) rfl 0 rfl ?_
                      refine m_blk 258 [(1, vi z24), (0, vr 0 0)] [vr 0 0, vr 0 0, vi 0, vr 0 0] C f_q_next_255_3 rfl ?_
                      refine m_geti C e_q_next_258 fg_Mo_125 rfl (by decide) rfl x3 hx3 ?_
                      refine m_callV C Rm Y [vi x3] [vi 0, vr 0 0] (q_byteAt l D B H0 ad _ t50 x3 (by show 0 ≤ x3 ∧ x3 ≤ 2147483647; omega)) cl_Mo_135 rfl (by decide) rfl rfl e_q_next_261 rfl rfl rfl ⟨by decide, by decide⟩ ?_
                      rintro v101 A102 ⟨z105, rfl, rfl, raw_hz_n104⟩
                      have hz_n104 : A1 0 0 22 ≤ x3 ∧ z105 = -1 ∨ x3 < A1 0 0 22 ∧ 0 ≤ z105 ∧ z105 ≤ 255 ∧ z105 = A1 9 0 (Int.toNat x3) := raw_hz_n104
                      show JM g D ad w0 (mu (mu (mu A1 0 0 24 x3) 0 0 25 3) 0 0 26 0) 264 [(1, vi z24), (0, vr 0 0)] [vi z105, vi 0, vr 0 0]
                      refine m_blk 268 [(1, vi z24), (0, vr 0 0)] [vi ((0 + z105) - 48), vr 0 0] C f_q_next_264_3 rfl ?_
                      refine m_puti C e_q_next_268 fp_Mo_165 rfl (by decide) rfl ?_
                      have t106 : mTy (mu (mu (mu (mu A1 0 0 24 x3) 0 0 25 3) 0 0 26 0) 0 0 26 ((0 + z105) - 48)) := t50.mu (by show (-1) ≤ ((0 + z105) - 48) ∧ ((0 + z105) - 48) ≤ 255; omega)
                      have q107 := q51.mu (f := 0) (k := 0) (j := 26) (z := ((0 + z105) - 48)) (by simp [nm])
                      refine m_blk 273 [(1, vi z24), (0, vr 0 0)] [vr 0 0, vr 0 0] C f_q_next_271_2 rfl ?_
                      refine m_geti C e_q_next_273 fg_Mo_125 rfl (by decide) rfl x3 hx3 ?_
                      refine m_blk 278 [(1, vi z24), (0, vr 0 0)] [vi (x3 + 1), vr 0 0] C f_q_next_276_2 rfl ?_
                      refine m_puti C e_q_next_278 fp_Mo_125 rfl (by decide) rfl ?_
                      have t108 : mTy (mu (mu (mu (mu (mu A1 0 0 24 x3) 0 0 25 3) 0 0 26 0) 0 0 26 ((0 + z105) - 48)) 0 0 23 (x3 + 1)) := t106.mu (by show 0 ≤ (x3 + 1) ∧ (x3 + 1) ≤ 120; omega)
                      have q109 := q107.mu (f := 0) (k := 0) (j := 23) (z := (x3 + 1)) (by simp [nm])
                      refine m_blk 217 [(1, vi z24), (0, vr 0 0)] [] C f_q_next_281_1 rfl ?_
                      have hd_217 : ∀ (N : Nat) (A3 : mA) (c : Int), mTy A3 → mEq nm A A3 → A 0 0 23 ≤ A3 0 0 24 ∧ A3 0 0 24 < A3 0 0 23 ∧ A3 0 0 23 ≤ A3 0 0 22 ∧ A3 0 0 22 ≤ 120 → A3 0 0 31 = 0 → 0 ≤ A3 0 0 26 ∧ A3 0 0 26 ≤ 99 ∧ (A3 0 0 23 = A3 0 0 24 + 1 → A3 0 0 26 ≤ 9) → A3 0 0 25 = 3 → (200 - A3 0 0 23) < (N : Int) → JM g D ad w0 A3 217 [(1, vi c), (0, vr 0 0)] [] := by
                        intro N
                        induction N with
                        | zero => intro A3 c hT3 hE3 j1 j2 j3 j4 hm; exact absurd hm (by omega)
                        | succ N ih =>
                          intro A3 c hT3 hE3 j1 j2 j3 j4 hm
                          refine m_blk 219 [(1, vi c), (0, vr 0 0)] [vr 0 0, vr 0 0] C f_q_next_217_2 rfl ?_
                          obtain ⟨x110, hx110⟩ : ∃ x, A3 0 0 23 = x := ⟨_, rfl⟩
                          have rx110 : 0 ≤ x110 ∧ x110 ≤ 120 := mrg hT3 hx110 rfl
                          refine m_geti C e_q_next_219 fg_Mo_125 rfl (by decide) rfl x110 hx110 ?_
                          refine m_callV C Rm Y [vi x110] [] (q_byteAt l D B H0 ad _ hT3 x110 (by show 0 ≤ x110 ∧ x110 ≤ 2147483647; omega)) cl_Mo_135 rfl (by decide) rfl rfl e_q_next_222 rfl rfl rfl ⟨by decide, by decide⟩ ?_
                          rintro v111 A112 ⟨z115, rfl, rfl, raw_hz_n114⟩
                          have hz_n114 : A3 0 0 22 ≤ x110 ∧ z115 = -1 ∨ x110 < A3 0 0 22 ∧ 0 ≤ z115 ∧ z115 ≤ 255 ∧ z115 = A3 9 0 (Int.toNat x110) := raw_hz_n114
                          show JM g D ad w0 A3 225 [(1, vi c), (0, vr 0 0)] [vi z115]
                          refine m_blk 229 [(1, vi c), (0, vr 0 0)] [vi 57, vi 48, vi z115] C f_q_next_225_2 rfl ?_
                          refine m_callS C Rm Y [vi z115, vi 48, vi 57] [] (q_in l D B H0 ad _ z115 48 57 (by omega) (by decide) (by decide)) cl_Mo_108 e_q_next_229 rfl rfl rfl ⟨by decide, by decide⟩ ?_
                          rintro v116 A117 ⟨z119, rfl, rfl, hz119⟩
                          show JM g D ad w0 A3 232 [(1, vi c), (0, vr 0 0)] [vi z119]
                          refine m_if_eq (tgt := 284) C e_q_next_232 (by decide) (by omega) (fun c120 => ?_) (fun c120 => ?_)
                          · refine m_blk 286 [(1, vi c), (0, vr 0 0)] [vr 0 0, vr 0 0] C f_q_next_284_2 rfl ?_
                            refine m_geti C e_q_next_286 fg_Mo_125 rfl (by decide) rfl x110 hx110 ?_
                            refine m_blk 290 [(1, vi c), (0, vr 0 0)] [vr 0 0, vi x110, vr 0 0] C f_q_next_289_1 rfl ?_
                            obtain ⟨x121, hx121⟩ : ∃ x, A3 0 0 24 = x := ⟨_, rfl⟩
                            have rx121 : 0 ≤ x121 ∧ x121 ≤ 120 := mrg hT3 hx121 rfl
                            refine m_geti C e_q_next_290 fg_Mo_128 rfl (by decide) rfl x121 hx121 ?_
                            refine m_blk 295 [(1, vi c), (0, vr 0 0)] [vi 2, vi (x110 - x121), vr 0 0] C f_q_next_293_2 rfl ?_
                            refine m_icmp_le (tgt := 302) C e_q_next_295 (by decide) (by omega) (by decide) (fun c122 => ?_) (fun c122 => ?_)
                            · refine m_blk 303 [(1, vi c), (0, vr 0 0)] [vi 0, vr 0 0] C f_q_next_302_1 rfl ?_
                              refine m_putz C e_q_next_303 fp_Mo_155 rfl (by decide) rfl (Or.inl rfl) ?_
                              have t123 : mTy (mu A3 0 0 31 0) := hT3.mu (by show 0 ≤ 0 ∧ 0 ≤ 1; omega)
                              have q124 := hE3.mu (f := 0) (k := 0) (j := 31) (z := 0) (by simp [nm])
                              refine m_blk 347 [(1, vi c), (0, vr 0 0)] [] C f_q_next_306_1 rfl ?_
                              exact m_vret C Rm E e_q_next_347 ⟨rfl, t123, q124, (fun h9 => absurd h9 (by omega)), (by show A 0 0 31 = 0 → A 0 0 23 ≤ A3 0 0 24 ∧ A3 0 0 24 ≤ A3 0 0 23 ∧ A3 0 0 23 ≤ A3 0 0 22 ∧ (0 = 0 → (A3 0 0 25 = 0 ∨ A3 0 0 24 < A3 0 0 23) ∧ (A3 0 0 25 = 2 → 0 ≤ A3 0 0 26 ∧ A3 0 0 26 ≤ 5)); omega)⟩
                            · refine m_blk 303 [(1, vi c), (0, vr 0 0)] [vi 1, vr 0 0] C f_q_next_298_2 rfl ?_
                              refine m_putz C e_q_next_303 fp_Mo_155 rfl (by decide) rfl (Or.inr rfl) ?_
                              have t125 : mTy (mu A3 0 0 31 1) := hT3.mu (by show 0 ≤ 1 ∧ 1 ≤ 1; omega)
                              have q126 := hE3.mu (f := 0) (k := 0) (j := 31) (z := 1) (by simp [nm])
                              refine m_blk 347 [(1, vi c), (0, vr 0 0)] [] C f_q_next_306_1 rfl ?_
                              exact m_vret C Rm E e_q_next_347 ⟨rfl, t125, q126, (fun h9 => absurd h9 (by omega)), (by show A 0 0 31 = 0 → A 0 0 23 ≤ A3 0 0 24 ∧ A3 0 0 24 ≤ A3 0 0 23 ∧ A3 0 0 23 ≤ A3 0 0 22 ∧ (1 = 0 → (A3 0 0 25 = 0 ∨ A3 0 0 24 < A3 0 0 23) ∧ (A3 0 0 25 = 2 → 0 ≤ A3 0 0 26 ∧ A3 0 0 26 ≤ 5)); omega)⟩
                          · refine m_blk 236 [(1, vi c), (0, vr 0 0)] [vr 0 0] C f_q_next_235_1 rfl ?_
                            refine m_geti C e_q_next_236 fg_Mo_125 rfl (by decide) rfl x110 hx110 ?_
                            refine m_blk 240 [(1, vi c), (0, vr 0 0)] [vr 0 0, vi x110] C f_q_next_239_1 rfl ?_
                            obtain ⟨x127, hx127⟩ : ∃ x, A3 0 0 24 = x := ⟨_, rfl⟩
                            have rx127 : 0 ≤ x127 ∧ x127 ≤ 120 := mrg hT3 hx127 rfl
                            refine m_geti C e_q_next_240 fg_Mo_128 rfl (by decide) rfl x127 hx127 ?_
                            refine m_blk 245 [(1, vi c), (0, vr 0 0)] [vi 2, vi (x110 - x127)] C f_q_next_243_2 rfl ?_
                            refine m_icmp_ge (tgt := 271) C e_q_next_245 (by decide) (by omega) (by decide) (fun c128 => ?_) (fun c128 => ?_)
                            · refine m_blk 273 [(1, vi c), (0, vr 0 0)] [vr 0 0, vr 0 0] C f_q_next_271_2 rfl ?_
                              refine m_geti C e_q_next_273 fg_Mo_125 rfl (by decide) rfl x110 hx110 ?_
                              refine m_blk 278 [(1, vi c), (0, vr 0 0)] [vi (x110 + 1), vr 0 0] C f_q_next_276_2 rfl ?_
                              refine m_puti C e_q_next_278 fp_Mo_125 rfl (by decide) rfl ?_
                              have t129 : mTy (mu A3 0 0 23 (x110 + 1)) := hT3.mu (by show 0 ≤ (x110 + 1) ∧ (x110 + 1) ≤ 120; omega)
                              have q130 := hE3.mu (f := 0) (k := 0) (j := 23) (z := (x110 + 1)) (by simp [nm])
                              refine m_blk 217 [(1, vi c), (0, vr 0 0)] [] C f_q_next_281_1 rfl ?_
                              refine m_loc [(1, vi c), (0, vr 0 0)] ⟨rfl, rfl, trivial⟩ ?_
                              exact ih (mu A3 0 0 23 (x110 + 1)) c t129 q130 (by show A 0 0 23 ≤ A3 0 0 24 ∧ A3 0 0 24 < (x110 + 1) ∧ (x110 + 1) ≤ A3 0 0 22 ∧ A3 0 0 22 ≤ 120; omega) (by show A3 0 0 31 = 0; omega) (by show 0 ≤ A3 0 0 26 ∧ A3 0 0 26 ≤ 99 ∧ ((x110 + 1) = A3 0 0 24 + 1 → A3 0 0 26 ≤ 9); omega) (by show A3 0 0 25 = 3; omega) (by have hm9 := hm; show (200 - (x110 + 1)) < _; omega)
                            · refine m_blk 252 [(1, vi c), (0, vr 0 0)] [vr 0 0, vi 10, vr 0 0] C f_q_next_248_3 rfl ?_
                              obtain ⟨x131, hx131⟩ : ∃ x, A3 0 0 26 = x := ⟨_, rfl⟩
                              have rx131 : (-1) ≤ x131 ∧ x131 ≤ 255 := mrg hT3 hx131 rfl
                              refine m_geti C e_q_next_252 fg_Mo_165 rfl (by decide) rfl x131 hx131 ?_
                              refine m_blk 258 [(1, vi c), (0, vr 0 0)] [vr 0 0, vr 0 0, vi (10 * x131), vr 0 0] C f_q_next_255_3 rfl ?_
                              refine m_geti C e_q_next_258 fg_Mo_125 rfl (by decide) rfl x110 hx110 ?_
                              refine m_callV C Rm Y [vi x110] [vi (10 * x131), vr 0 0] (q_byteAt l D B H0 ad _ hT3 x110 (by show 0 ≤ x110 ∧ x110 ≤ 2147483647; omega)) cl_Mo_135 rfl (by decide) rfl rfl e_q_next_261 rfl rfl rfl ⟨by decide, by decide⟩ ?_
                              rintro v132 A133 ⟨z136, rfl, rfl, raw_hz_n135⟩
                              have hz_n135 : A3 0 0 22 ≤ x110 ∧ z136 = -1 ∨ x110 < A3 0 0 22 ∧ 0 ≤ z136 ∧ z136 ≤ 255 ∧ z136 = A3 9 0 (Int.toNat x110) := raw_hz_n135
                              show JM g D ad w0 A3 264 [(1, vi c), (0, vr 0 0)] [vi z136, vi (10 * x131), vr 0 0]
                              refine m_blk 268 [(1, vi c), (0, vr 0 0)] [vi (((10 * x131) + z136) - 48), vr 0 0] C f_q_next_264_3 rfl ?_
                              refine m_puti C e_q_next_268 fp_Mo_165 rfl (by decide) rfl ?_
                              have t137 : mTy (mu A3 0 0 26 (((10 * x131) + z136) - 48)) := hT3.mu (by show (-1) ≤ (((10 * x131) + z136) - 48) ∧ (((10 * x131) + z136) - 48) ≤ 255; omega)
                              have q138 := hE3.mu (f := 0) (k := 0) (j := 26) (z := (((10 * x131) + z136) - 48)) (by simp [nm])
                              refine m_blk 273 [(1, vi c), (0, vr 0 0)] [vr 0 0, vr 0 0] C f_q_next_271_2 rfl ?_
                              refine m_geti C e_q_next_273 fg_Mo_125 rfl (by decide) rfl x110 hx110 ?_
                              refine m_blk 278 [(1, vi c), (0, vr 0 0)] [vi (x110 + 1), vr 0 0] C f_q_next_276_2 rfl ?_
                              refine m_puti C e_q_next_278 fp_Mo_125 rfl (by decide) rfl ?_
                              have t139 : mTy (mu (mu A3 0 0 26 (((10 * x131) + z136) - 48)) 0 0 23 (x110 + 1)) := t137.mu (by show 0 ≤ (x110 + 1) ∧ (x110 + 1) ≤ 120; omega)
                              have q140 := q138.mu (f := 0) (k := 0) (j := 23) (z := (x110 + 1)) (by simp [nm])
                              refine m_blk 217 [(1, vi c), (0, vr 0 0)] [] C f_q_next_281_1 rfl ?_
                              refine m_loc [(1, vi c), (0, vr 0 0)] ⟨rfl, rfl, trivial⟩ ?_
                              exact ih (mu (mu A3 0 0 26 (((10 * x131) + z136) - 48)) 0 0 23 (x110 + 1)) c t139 q140 (by show A 0 0 23 ≤ A3 0 0 24 ∧ A3 0 0 24 < (x110 + 1) ∧ (x110 + 1) ≤ A3 0 0 22 ∧ A3 0 0 22 ≤ 120; omega) (by show A3 0 0 31 = 0; omega) (by show 0 ≤ (((10 * x131) + z136) - 48) ∧ (((10 * x131) + z136) - 48) ≤ 99 ∧ ((x110 + 1) = A3 0 0 24 + 1 → (((10 * x131) + z136) - 48) ≤ 9); omega) (by show A3 0 0 25 = 3; omega) (by have hm9 := hm; show (200 - (x110 + 1)) < _; omega)
                      refine m_loc [(1, vi z24), (0, vr 0 0)] ⟨rfl, rfl, trivial⟩ ?_
                      exact hd_217 (Int.toNat ((200 - (x3 + 1))) + 1) (mu (mu (mu (mu (mu A1 0 0 24 x3) 0 0 25 3) 0 0 26 0) 0 0 26 ((0 + z105) - 48)) 0 0 23 (x3 + 1)) z24 t108 q109 (by show A 0 0 23 ≤ x3 ∧ x3 < (x3 + 1) ∧ (x3 + 1) ≤ A1 0 0 22 ∧ A1 0 0 22 ≤ 120; omega) (by show A1 0 0 31 = 0; omega) (by show 0 ≤ ((0 + z105) - 48) ∧ ((0 + z105) - 48) ≤ 99 ∧ ((x3 + 1) = x3 + 1 → ((0 + z105) - 48) ≤ 9); omega) (by show 3 = 3; omega) (by show (200 - (x3 + 1)) < _; omega)
              · refine m_blk 90 [(1, vi z24), (0, vr 0 0)] [vr 0 0, vr 0 0] C f_q_next_88_2 rfl ?_
                refine m_geti C e_q_next_90 fg_Mo_125 rfl (by decide) rfl x3 hx3 ?_
                refine m_callV C Rm Y [vi x3] [] (q_byteAt l D B H0 ad _ t18 x3 (by show 0 ≤ x3 ∧ x3 ≤ 2147483647; omega)) cl_Mo_135 rfl (by decide) rfl rfl e_q_next_93 rfl rfl rfl ⟨by decide, by decide⟩ ?_
                rintro v141 A142 ⟨z145, rfl, rfl, raw_hz_n144⟩
                have hz_n144 : A1 0 0 22 ≤ x3 ∧ z145 = -1 ∨ x3 < A1 0 0 22 ∧ 0 ≤ z145 ∧ z145 ≤ 255 ∧ z145 = A1 9 0 (Int.toNat x3) := raw_hz_n144
                show JM g D ad w0 (mu A1 0 0 24 x3) 96 [(1, vi z24), (0, vr 0 0)] [vi z145]
                refine m_blk 100 [(1, vi z24), (0, vr 0 0)] [vi 122, vi 97, vi z145] C f_q_next_96_2 rfl ?_
                refine m_callS C Rm Y [vi z145, vi 97, vi 122] [] (q_in l D B H0 ad _ z145 97 122 (by omega) (by decide) (by decide)) cl_Mo_108 e_q_next_100 rfl rfl rfl ⟨by decide, by decide⟩ ?_
                rintro v146 A147 ⟨z149, rfl, rfl, hz149⟩
                show JM g D ad w0 (mu A1 0 0 24 x3) 103 [(1, vi z24), (0, vr 0 0)] [vi z149]
                refine m_if_eq (tgt := 119) C e_q_next_103 (by decide) (by omega) (fun c150 => ?_) (fun c150 => ?_)
                · refine m_blk 120 [(1, vi z24), (0, vr 0 0)] [vr 0 0] C f_q_next_119_1 rfl ?_
                  refine m_geti C e_q_next_120 fg_Mo_125 rfl (by decide) rfl x3 hx3 ?_
                  refine m_blk 124 [(1, vi z24), (0, vr 0 0)] [vr 0 0, vi x3] C f_q_next_123_1 rfl ?_
                  refine m_geti C e_q_next_124 fg_Mo_128 rfl (by decide) rfl x3 rfl ?_
                  refine m_blk 129 [(1, vi z24), (0, vr 0 0)] [vi 1, vi (x3 - x3)] C f_q_next_127_2 rfl ?_
                  refine m_icmp_ne (tgt := 142) C e_q_next_129 (by decide) (by omega) (by decide) (fun c151 => ?_) (fun c151 => ?_)
                  · refine m_blk 146 [(2, vi 0), (1, vi z24), (0, vr 0 0)] [vi 0, vr 0 0] C f_q_next_142_4 rfl ?_
                    refine m_if_eq (tgt := 153) C e_q_next_146 (by decide) (by decide) (fun c152 => ?_) (fun c152 => (by omega : False).elim)
                    refine m_blk 154 [(2, vi 0), (1, vi z24), (0, vr 0 0)] [vi 2, vr 0 0] C f_q_next_153_1 rfl ?_
                    refine m_puti C e_q_next_154 fp_Mo_159 rfl (by decide) rfl ?_
                    have t153 : mTy (mu (mu A1 0 0 24 x3) 0 0 25 2) := t18.mu (by show 0 ≤ 2 ∧ 2 ≤ 4; omega)
                    have q154 := q19.mu (f := 0) (k := 0) (j := 25) (z := 2) (by simp [nm])
                    refine m_blk 159 [(2, vi 0), (1, vi z24), (0, vr 0 0)] [vi 0, vr 0 0] C f_q_next_157_2 rfl ?_
                    refine m_if_eq (tgt := 169) C e_q_next_159 (by decide) (by decide) (fun c155 => ?_) (fun c155 => (by omega : False).elim)
                    refine m_blk 170 [(2, vi 0), (1, vi z24), (0, vr 0 0)] [vr 0 0, vr 0 0] C f_q_next_169_1 rfl ?_
                    refine m_callV C Rm Y [] [vr 0 0] (q_wordRead l D B H0 ad _ hS t153) cl_Mo_162 rfl (by decide) rfl rfl e_q_next_170 rfl rfl rfl ⟨by decide, by decide⟩ ?_
                    rintro v156 A157 ⟨z160, rfl, rfl, raw_hz_n159⟩
                    have hz_n159 : -1 ≤ z160 ∧ z160 ≤ 5 := raw_hz_n159
                    show JM g D ad w0 (mu (mu A1 0 0 24 x3) 0 0 25 2) 173 [(2, vi 0), (1, vi z24), (0, vr 0 0)] [vi z160, vr 0 0]
                    refine m_puti C e_q_next_173 fp_Mo_165 rfl (by decide) rfl ?_
                    have t161 : mTy (mu (mu (mu A1 0 0 24 x3) 0 0 25 2) 0 0 26 z160) := t153.mu (by show (-1) ≤ z160 ∧ z160 ≤ 255; omega)
                    have q162 := q154.mu (f := 0) (k := 0) (j := 26) (z := z160) (by simp [nm])
                    refine m_blk 178 [(2, vi 0), (1, vi z24), (0, vr 0 0)] [vr 0 0, vr 0 0] C f_q_next_176_2 rfl ?_
                    refine m_geti C e_q_next_178 fg_Mo_165 rfl (by decide) rfl z160 rfl ?_
                    refine m_blk 182 [(2, vi 0), (1, vi z24), (0, vr 0 0)] [vi (-1), vi z160, vr 0 0] C f_q_next_181_1 rfl ?_
                    refine m_icmp_ne (tgt := 189) C e_q_next_182 (by decide) (by omega) (by decide) (fun c163 => ?_) (fun c163 => ?_)
                    · refine m_blk 190 [(2, vi 0), (1, vi z24), (0, vr 0 0)] [vi 0, vr 0 0] C f_q_next_189_1 rfl ?_
                      refine m_putz C e_q_next_190 fp_Mo_155 rfl (by decide) rfl (Or.inl rfl) ?_
                      have t164 : mTy (mu (mu (mu (mu A1 0 0 24 x3) 0 0 25 2) 0 0 26 z160) 0 0 31 0) := t161.mu (by show 0 ≤ 0 ∧ 0 ≤ 1; omega)
                      have q165 := q162.mu (f := 0) (k := 0) (j := 31) (z := 0) (by simp [nm])
                      refine m_blk 347 [(2, vi 0), (1, vi z24), (0, vr 0 0)] [] C f_q_next_193_1 rfl ?_
                      exact m_vret C Rm E e_q_next_347 ⟨rfl, t164, q165, (fun h9 => absurd h9 (by omega)), (by show A 0 0 31 = 0 → A 0 0 23 ≤ x3 ∧ x3 ≤ A1 0 0 23 ∧ A1 0 0 23 ≤ A1 0 0 22 ∧ (0 = 0 → (2 = 0 ∨ x3 < A1 0 0 23) ∧ (2 = 2 → 0 ≤ z160 ∧ z160 ≤ 5)); omega)⟩
                    · refine m_blk 190 [(2, vi 0), (1, vi z24), (0, vr 0 0)] [vi 1, vr 0 0] C f_q_next_185_2 rfl ?_
                      refine m_putz C e_q_next_190 fp_Mo_155 rfl (by decide) rfl (Or.inr rfl) ?_
                      have t166 : mTy (mu (mu (mu (mu A1 0 0 24 x3) 0 0 25 2) 0 0 26 z160) 0 0 31 1) := t161.mu (by show 0 ≤ 1 ∧ 1 ≤ 1; omega)
                      have q167 := q162.mu (f := 0) (k := 0) (j := 31) (z := 1) (by simp [nm])
                      refine m_blk 347 [(2, vi 0), (1, vi z24), (0, vr 0 0)] [] C f_q_next_193_1 rfl ?_
                      exact m_vret C Rm E e_q_next_347 ⟨rfl, t166, q167, (fun h9 => absurd h9 (by omega)), (by show A 0 0 31 = 0 → A 0 0 23 ≤ x3 ∧ x3 ≤ A1 0 0 23 ∧ A1 0 0 23 ≤ A1 0 0 22 ∧ (1 = 0 → (2 = 0 ∨ x3 < A1 0 0 23) ∧ (2 = 2 → 0 ≤ z160 ∧ z160 ≤ 5)); omega)⟩
                  · refine m_blk 135 [(1, vi z24), (0, vr 0 0)] [vi 102, vi z24] C f_q_next_132_2 rfl ?_
                    refine m_icmp_gt (tgt := 142) C e_q_next_135 (by decide) (by omega) (by decide) (fun c168 => ?_) (fun c168 => ?_)
                    · refine m_blk 146 [(2, vi 0), (1, vi z24), (0, vr 0 0)] [vi 0, vr 0 0] C f_q_next_142_4 rfl ?_
                      refine m_if_eq (tgt := 153) C e_q_next_146 (by decide) (by decide) (fun c169 => ?_) (fun c169 => (by omega : False).elim)
                      refine m_blk 154 [(2, vi 0), (1, vi z24), (0, vr 0 0)] [vi 2, vr 0 0] C f_q_next_153_1 rfl ?_
                      refine m_puti C e_q_next_154 fp_Mo_159 rfl (by decide) rfl ?_
                      have t170 : mTy (mu (mu A1 0 0 24 x3) 0 0 25 2) := t18.mu (by show 0 ≤ 2 ∧ 2 ≤ 4; omega)
                      have q171 := q19.mu (f := 0) (k := 0) (j := 25) (z := 2) (by simp [nm])
                      refine m_blk 159 [(2, vi 0), (1, vi z24), (0, vr 0 0)] [vi 0, vr 0 0] C f_q_next_157_2 rfl ?_
                      refine m_if_eq (tgt := 169) C e_q_next_159 (by decide) (by decide) (fun c172 => ?_) (fun c172 => (by omega : False).elim)
                      refine m_blk 170 [(2, vi 0), (1, vi z24), (0, vr 0 0)] [vr 0 0, vr 0 0] C f_q_next_169_1 rfl ?_
                      refine m_callV C Rm Y [] [vr 0 0] (q_wordRead l D B H0 ad _ hS t170) cl_Mo_162 rfl (by decide) rfl rfl e_q_next_170 rfl rfl rfl ⟨by decide, by decide⟩ ?_
                      rintro v173 A174 ⟨z177, rfl, rfl, raw_hz_n176⟩
                      have hz_n176 : -1 ≤ z177 ∧ z177 ≤ 5 := raw_hz_n176
                      show JM g D ad w0 (mu (mu A1 0 0 24 x3) 0 0 25 2) 173 [(2, vi 0), (1, vi z24), (0, vr 0 0)] [vi z177, vr 0 0]
                      refine m_puti C e_q_next_173 fp_Mo_165 rfl (by decide) rfl ?_
                      have t178 : mTy (mu (mu (mu A1 0 0 24 x3) 0 0 25 2) 0 0 26 z177) := t170.mu (by show (-1) ≤ z177 ∧ z177 ≤ 255; omega)
                      have q179 := q171.mu (f := 0) (k := 0) (j := 26) (z := z177) (by simp [nm])
                      refine m_blk 178 [(2, vi 0), (1, vi z24), (0, vr 0 0)] [vr 0 0, vr 0 0] C f_q_next_176_2 rfl ?_
                      refine m_geti C e_q_next_178 fg_Mo_165 rfl (by decide) rfl z177 rfl ?_
                      refine m_blk 182 [(2, vi 0), (1, vi z24), (0, vr 0 0)] [vi (-1), vi z177, vr 0 0] C f_q_next_181_1 rfl ?_
                      refine m_icmp_ne (tgt := 189) C e_q_next_182 (by decide) (by omega) (by decide) (fun c180 => ?_) (fun c180 => ?_)
                      · refine m_blk 190 [(2, vi 0), (1, vi z24), (0, vr 0 0)] [vi 0, vr 0 0] C f_q_next_189_1 rfl ?_
                        refine m_putz C e_q_next_190 fp_Mo_155 rfl (by decide) rfl (Or.inl rfl) ?_
                        have t181 : mTy (mu (mu (mu (mu A1 0 0 24 x3) 0 0 25 2) 0 0 26 z177) 0 0 31 0) := t178.mu (by show 0 ≤ 0 ∧ 0 ≤ 1; omega)
                        have q182 := q179.mu (f := 0) (k := 0) (j := 31) (z := 0) (by simp [nm])
                        refine m_blk 347 [(2, vi 0), (1, vi z24), (0, vr 0 0)] [] C f_q_next_193_1 rfl ?_
                        exact m_vret C Rm E e_q_next_347 ⟨rfl, t181, q182, (fun h9 => absurd h9 (by omega)), (by show A 0 0 31 = 0 → A 0 0 23 ≤ x3 ∧ x3 ≤ A1 0 0 23 ∧ A1 0 0 23 ≤ A1 0 0 22 ∧ (0 = 0 → (2 = 0 ∨ x3 < A1 0 0 23) ∧ (2 = 2 → 0 ≤ z177 ∧ z177 ≤ 5)); omega)⟩
                      · refine m_blk 190 [(2, vi 0), (1, vi z24), (0, vr 0 0)] [vi 1, vr 0 0] C f_q_next_185_2 rfl ?_
                        refine m_putz C e_q_next_190 fp_Mo_155 rfl (by decide) rfl (Or.inr rfl) ?_
                        have t183 : mTy (mu (mu (mu (mu A1 0 0 24 x3) 0 0 25 2) 0 0 26 z177) 0 0 31 1) := t178.mu (by show 0 ≤ 1 ∧ 1 ≤ 1; omega)
                        have q184 := q179.mu (f := 0) (k := 0) (j := 31) (z := 1) (by simp [nm])
                        refine m_blk 347 [(2, vi 0), (1, vi z24), (0, vr 0 0)] [] C f_q_next_193_1 rfl ?_
                        exact m_vret C Rm E e_q_next_347 ⟨rfl, t183, q184, (fun h9 => absurd h9 (by omega)), (by show A 0 0 31 = 0 → A 0 0 23 ≤ x3 ∧ x3 ≤ A1 0 0 23 ∧ A1 0 0 23 ≤ A1 0 0 22 ∧ (1 = 0 → (2 = 0 ∨ x3 < A1 0 0 23) ∧ (2 = 2 → 0 ≤ z177 ∧ z177 ≤ 5)); omega)⟩
                    · refine m_blk 143 [(1, vi z24), (0, vr 0 0)] [vi 1] C f_q_next_138_2 rfl ?_
                      refine m_blk 146 [(2, vi 1), (1, vi z24), (0, vr 0 0)] [vi 1, vr 0 0] C f_q_next_143_3 rfl ?_
                      refine m_if_eq (tgt := 153) C e_q_next_146 (by decide) (by decide) (fun c185 => (by omega : False).elim) (fun c185 => ?_)
                      refine m_blk 154 [(2, vi 1), (1, vi z24), (0, vr 0 0)] [vi 1, vr 0 0] C f_q_next_149_2 rfl ?_
                      refine m_puti C e_q_next_154 fp_Mo_159 rfl (by decide) rfl ?_
                      have t186 : mTy (mu (mu A1 0 0 24 x3) 0 0 25 1) := t18.mu (by show 0 ≤ 1 ∧ 1 ≤ 4; omega)
                      have q187 := q19.mu (f := 0) (k := 0) (j := 25) (z := 1) (by simp [nm])
                      refine m_blk 159 [(2, vi 1), (1, vi z24), (0, vr 0 0)] [vi 1, vr 0 0] C f_q_next_157_2 rfl ?_
                      refine m_if_eq (tgt := 169) C e_q_next_159 (by decide) (by decide) (fun c188 => (by omega : False).elim) (fun c188 => ?_)
                      refine m_blk 173 [(2, vi 1), (1, vi z24), (0, vr 0 0)] [vi (z24 - 97), vr 0 0] C f_q_next_162_4 rfl ?_
                      refine m_puti C e_q_next_173 fp_Mo_165 rfl (by decide) rfl ?_
                      have t189 : mTy (mu (mu (mu A1 0 0 24 x3) 0 0 25 1) 0 0 26 (z24 - 97)) := t186.mu (by show (-1) ≤ (z24 - 97) ∧ (z24 - 97) ≤ 255; omega)
                      have q190 := q187.mu (f := 0) (k := 0) (j := 26) (z := (z24 - 97)) (by simp [nm])
                      refine m_blk 178 [(2, vi 1), (1, vi z24), (0, vr 0 0)] [vr 0 0, vr 0 0] C f_q_next_176_2 rfl ?_
                      refine m_geti C e_q_next_178 fg_Mo_165 rfl (by decide) rfl (z24 - 97) rfl ?_
                      refine m_blk 182 [(2, vi 1), (1, vi z24), (0, vr 0 0)] [vi (-1), vi (z24 - 97), vr 0 0] C f_q_next_181_1 rfl ?_
                      refine m_icmp_ne (tgt := 189) C e_q_next_182 (by decide) (by omega) (by decide) (fun c191 => ?_) (fun c191 => ?_)
                      · refine m_blk 190 [(2, vi 1), (1, vi z24), (0, vr 0 0)] [vi 0, vr 0 0] C f_q_next_189_1 rfl ?_
                        refine m_putz C e_q_next_190 fp_Mo_155 rfl (by decide) rfl (Or.inl rfl) ?_
                        have t192 : mTy (mu (mu (mu (mu A1 0 0 24 x3) 0 0 25 1) 0 0 26 (z24 - 97)) 0 0 31 0) := t189.mu (by show 0 ≤ 0 ∧ 0 ≤ 1; omega)
                        have q193 := q190.mu (f := 0) (k := 0) (j := 31) (z := 0) (by simp [nm])
                        refine m_blk 347 [(2, vi 1), (1, vi z24), (0, vr 0 0)] [] C f_q_next_193_1 rfl ?_
                        exact m_vret C Rm E e_q_next_347 ⟨rfl, t192, q193, (fun h9 => absurd h9 (by omega)), (by show A 0 0 31 = 0 → A 0 0 23 ≤ x3 ∧ x3 ≤ A1 0 0 23 ∧ A1 0 0 23 ≤ A1 0 0 22 ∧ (0 = 0 → (1 = 0 ∨ x3 < A1 0 0 23) ∧ (1 = 2 → 0 ≤ (z24 - 97) ∧ (z24 - 97) ≤ 5)); omega)⟩
                      · refine m_blk 190 [(2, vi 1), (1, vi z24), (0, vr 0 0)] [vi 1, vr 0 0] C f_q_next_185_2 rfl ?_
                        refine m_putz C e_q_next_190 fp_Mo_155 rfl (by decide) rfl (Or.inr rfl) ?_
                        have t194 : mTy (mu (mu (mu (mu A1 0 0 24 x3) 0 0 25 1) 0 0 26 (z24 - 97)) 0 0 31 1) := t189.mu (by show 0 ≤ 1 ∧ 1 ≤ 1; omega)
                        have q195 := q190.mu (f := 0) (k := 0) (j := 31) (z := 1) (by simp [nm])
                        refine m_blk 347 [(2, vi 1), (1, vi z24), (0, vr 0 0)] [] C f_q_next_193_1 rfl ?_
                        exact m_vret C Rm E e_q_next_347 ⟨rfl, t194, q195, (fun h9 => absurd h9 (by omega)), (by show A 0 0 31 = 0 → A 0 0 23 ≤ x3 ∧ x3 ≤ A1 0 0 23 ∧ A1 0 0 23 ≤ A1 0 0 22 ∧ (1 = 0 → (1 = 0 ∨ x3 < A1 0 0 23) ∧ (1 = 2 → 0 ≤ (z24 - 97) ∧ (z24 - 97) ≤ 5)); omega)⟩
                · refine m_blk 108 [(1, vi z24), (0, vr 0 0)] [vr 0 0, vr 0 0] C f_q_next_106_2 rfl ?_
                  refine m_geti C e_q_next_108 fg_Mo_125 rfl (by decide) rfl x3 hx3 ?_
                  refine m_blk 113 [(1, vi z24), (0, vr 0 0)] [vi (x3 + 1), vr 0 0] C f_q_next_111_2 rfl ?_
                  refine m_puti C e_q_next_113 fp_Mo_125 rfl (by decide) rfl ?_
                  have t196 : mTy (mu (mu A1 0 0 24 x3) 0 0 23 (x3 + 1)) := t18.mu (by show 0 ≤ (x3 + 1) ∧ (x3 + 1) ≤ 120; omega)
                  have q197 := q19.mu (f := 0) (k := 0) (j := 23) (z := (x3 + 1)) (by simp [nm])
                  refine m_blk 88 [(1, vi z24), (0, vr 0 0)] [] C f_q_next_116_1 rfl ?_
                  have hd_88 : ∀ (N : Nat) (A2 : mA) (c : Int), mTy A2 → mEq nm A A2 → A 0 0 23 ≤ A2 0 0 24 ∧ A2 0 0 24 < A2 0 0 23 ∧ A2 0 0 23 ≤ A2 0 0 22 ∧ A2 0 0 22 ≤ 120 → A2 0 0 31 = 0 → 97 ≤ c ∧ c ≤ 122 → (200 - A2 0 0 23) < (N : Int) → JM g D ad w0 A2 88 [(1, vi c), (0, vr 0 0)] [] := by
                    intro N
                    induction N with
                    | zero => intro A2 c hT2 hE2 j1 j2 j3 hm; exact absurd hm (by omega)
                    | succ N ih =>
                      intro A2 c hT2 hE2 j1 j2 j3 hm
                      refine m_blk 90 [(1, vi c), (0, vr 0 0)] [vr 0 0, vr 0 0] C f_q_next_88_2 rfl ?_
                      obtain ⟨x198, hx198⟩ : ∃ x, A2 0 0 23 = x := ⟨_, rfl⟩
                      have rx198 : 0 ≤ x198 ∧ x198 ≤ 120 := mrg hT2 hx198 rfl
                      refine m_geti C e_q_next_90 fg_Mo_125 rfl (by decide) rfl x198 hx198 ?_
                      refine m_callV C Rm Y [vi x198] [] (q_byteAt l D B H0 ad _ hT2 x198 (by show 0 ≤ x198 ∧ x198 ≤ 2147483647; omega)) cl_Mo_135 rfl (by decide) rfl rfl e_q_next_93 rfl rfl rfl ⟨by decide, by decide⟩ ?_
                      rintro v199 A200 ⟨z203, rfl, rfl, raw_hz_n202⟩
                      have hz_n202 : A2 0 0 22 ≤ x198 ∧ z203 = -1 ∨ x198 < A2 0 0 22 ∧ 0 ≤ z203 ∧ z203 ≤ 255 ∧ z203 = A2 9 0 (Int.toNat x198) := raw_hz_n202
                      show JM g D ad w0 A2 96 [(1, vi c), (0, vr 0 0)] [vi z203]
                      refine m_blk 100 [(1, vi c), (0, vr 0 0)] [vi 122, vi 97, vi z203] C f_q_next_96_2 rfl ?_
                      refine m_callS C Rm Y [vi z203, vi 97, vi 122] [] (q_in l D B H0 ad _ z203 97 122 (by omega) (by decide) (by decide)) cl_Mo_108 e_q_next_100 rfl rfl rfl ⟨by decide, by decide⟩ ?_
                      rintro v204 A205 ⟨z207, rfl, rfl, hz207⟩
                      show JM g D ad w0 A2 103 [(1, vi c), (0, vr 0 0)] [vi z207]
                      refine m_if_eq (tgt := 119) C e_q_next_103 (by decide) (by omega) (fun c208 => ?_) (fun c208 => ?_)
                      · refine m_blk 120 [(1, vi c), (0, vr 0 0)] [vr 0 0] C f_q_next_119_1 rfl ?_
                        refine m_geti C e_q_next_120 fg_Mo_125 rfl (by decide) rfl x198 hx198 ?_
                        refine m_blk 124 [(1, vi c), (0, vr 0 0)] [vr 0 0, vi x198] C f_q_next_123_1 rfl ?_
                        obtain ⟨x209, hx209⟩ : ∃ x, A2 0 0 24 = x := ⟨_, rfl⟩
                        have rx209 : 0 ≤ x209 ∧ x209 ≤ 120 := mrg hT2 hx209 rfl
                        refine m_geti C e_q_next_124 fg_Mo_128 rfl (by decide) rfl x209 hx209 ?_
                        refine m_blk 129 [(1, vi c), (0, vr 0 0)] [vi 1, vi (x198 - x209)] C f_q_next_127_2 rfl ?_
                        refine m_icmp_ne (tgt := 142) C e_q_next_129 (by decide) (by omega) (by decide) (fun c210 => ?_) (fun c210 => ?_)
                        · refine m_blk 146 [(2, vi 0), (1, vi c), (0, vr 0 0)] [vi 0, vr 0 0] C f_q_next_142_4 rfl ?_
                          refine m_if_eq (tgt := 153) C e_q_next_146 (by decide) (by decide) (fun c211 => ?_) (fun c211 => (by omega : False).elim)
                          refine m_blk 154 [(2, vi 0), (1, vi c), (0, vr 0 0)] [vi 2, vr 0 0] C f_q_next_153_1 rfl ?_
                          refine m_puti C e_q_next_154 fp_Mo_159 rfl (by decide) rfl ?_
                          have t212 : mTy (mu A2 0 0 25 2) := hT2.mu (by show 0 ≤ 2 ∧ 2 ≤ 4; omega)
                          have q213 := hE2.mu (f := 0) (k := 0) (j := 25) (z := 2) (by simp [nm])
                          refine m_blk 159 [(2, vi 0), (1, vi c), (0, vr 0 0)] [vi 0, vr 0 0] C f_q_next_157_2 rfl ?_
                          refine m_if_eq (tgt := 169) C e_q_next_159 (by decide) (by decide) (fun c214 => ?_) (fun c214 => (by omega : False).elim)
                          refine m_blk 170 [(2, vi 0), (1, vi c), (0, vr 0 0)] [vr 0 0, vr 0 0] C f_q_next_169_1 rfl ?_
                          refine m_callV C Rm Y [] [vr 0 0] (q_wordRead l D B H0 ad _ hS t212) cl_Mo_162 rfl (by decide) rfl rfl e_q_next_170 rfl rfl rfl ⟨by decide, by decide⟩ ?_
                          rintro v215 A216 ⟨z219, rfl, rfl, raw_hz_n218⟩
                          have hz_n218 : -1 ≤ z219 ∧ z219 ≤ 5 := raw_hz_n218
                          show JM g D ad w0 (mu A2 0 0 25 2) 173 [(2, vi 0), (1, vi c), (0, vr 0 0)] [vi z219, vr 0 0]
                          refine m_puti C e_q_next_173 fp_Mo_165 rfl (by decide) rfl ?_
                          have t220 : mTy (mu (mu A2 0 0 25 2) 0 0 26 z219) := t212.mu (by show (-1) ≤ z219 ∧ z219 ≤ 255; omega)
                          have q221 := q213.mu (f := 0) (k := 0) (j := 26) (z := z219) (by simp [nm])
                          refine m_blk 178 [(2, vi 0), (1, vi c), (0, vr 0 0)] [vr 0 0, vr 0 0] C f_q_next_176_2 rfl ?_
                          refine m_geti C e_q_next_178 fg_Mo_165 rfl (by decide) rfl z219 rfl ?_
                          refine m_blk 182 [(2, vi 0), (1, vi c), (0, vr 0 0)] [vi (-1), vi z219, vr 0 0] C f_q_next_181_1 rfl ?_
                          refine m_icmp_ne (tgt := 189) C e_q_next_182 (by decide) (by omega) (by decide) (fun c222 => ?_) (fun c222 => ?_)
                          · refine m_blk 190 [(2, vi 0), (1, vi c), (0, vr 0 0)] [vi 0, vr 0 0] C f_q_next_189_1 rfl ?_
                            refine m_putz C e_q_next_190 fp_Mo_155 rfl (by decide) rfl (Or.inl rfl) ?_
                            have t223 : mTy (mu (mu (mu A2 0 0 25 2) 0 0 26 z219) 0 0 31 0) := t220.mu (by show 0 ≤ 0 ∧ 0 ≤ 1; omega)
                            have q224 := q221.mu (f := 0) (k := 0) (j := 31) (z := 0) (by simp [nm])
                            refine m_blk 347 [(2, vi 0), (1, vi c), (0, vr 0 0)] [] C f_q_next_193_1 rfl ?_
                            exact m_vret C Rm E e_q_next_347 ⟨rfl, t223, q224, (fun h9 => absurd h9 (by omega)), (by show A 0 0 31 = 0 → A 0 0 23 ≤ A2 0 0 24 ∧ A2 0 0 24 ≤ A2 0 0 23 ∧ A2 0 0 23 ≤ A2 0 0 22 ∧ (0 = 0 → (2 = 0 ∨ A2 0 0 24 < A2 0 0 23) ∧ (2 = 2 → 0 ≤ z219 ∧ z219 ≤ 5)); omega)⟩
                          · refine m_blk 190 [(2, vi 0), (1, vi c), (0, vr 0 0)] [vi 1, vr 0 0] C f_q_next_185_2 rfl ?_
                            refine m_putz C e_q_next_190 fp_Mo_155 rfl (by decide) rfl (Or.inr rfl) ?_
                            have t225 : mTy (mu (mu (mu A2 0 0 25 2) 0 0 26 z219) 0 0 31 1) := t220.mu (by show 0 ≤ 1 ∧ 1 ≤ 1; omega)
                            have q226 := q221.mu (f := 0) (k := 0) (j := 31) (z := 1) (by simp [nm])
                            refine m_blk 347 [(2, vi 0), (1, vi c), (0, vr 0 0)] [] C f_q_next_193_1 rfl ?_
                            exact m_vret C Rm E e_q_next_347 ⟨rfl, t225, q226, (fun h9 => absurd h9 (by omega)), (by show A 0 0 31 = 0 → A 0 0 23 ≤ A2 0 0 24 ∧ A2 0 0 24 ≤ A2 0 0 23 ∧ A2 0 0 23 ≤ A2 0 0 22 ∧ (1 = 0 → (2 = 0 ∨ A2 0 0 24 < A2 0 0 23) ∧ (2 = 2 → 0 ≤ z219 ∧ z219 ≤ 5)); omega)⟩
                        · refine m_blk 135 [(1, vi c), (0, vr 0 0)] [vi 102, vi c] C f_q_next_132_2 rfl ?_
                          refine m_icmp_gt (tgt := 142) C e_q_next_135 (by decide) (by omega) (by decide) (fun c227 => ?_) (fun c227 => ?_)
                          · refine m_blk 146 [(2, vi 0), (1, vi c), (0, vr 0 0)] [vi 0, vr 0 0] C f_q_next_142_4 rfl ?_
                            refine m_if_eq (tgt := 153) C e_q_next_146 (by decide) (by decide) (fun c228 => ?_) (fun c228 => (by omega : False).elim)
                            refine m_blk 154 [(2, vi 0), (1, vi c), (0, vr 0 0)] [vi 2, vr 0 0] C f_q_next_153_1 rfl ?_
                            refine m_puti C e_q_next_154 fp_Mo_159 rfl (by decide) rfl ?_
                            have t229 : mTy (mu A2 0 0 25 2) := hT2.mu (by show 0 ≤ 2 ∧ 2 ≤ 4; omega)
                            have q230 := hE2.mu (f := 0) (k := 0) (j := 25) (z := 2) (by simp [nm])
                            refine m_blk 159 [(2, vi 0), (1, vi c), (0, vr 0 0)] [vi 0, vr 0 0] C f_q_next_157_2 rfl ?_
                            refine m_if_eq (tgt := 169) C e_q_next_159 (by decide) (by decide) (fun c231 => ?_) (fun c231 => (by omega : False).elim)
                            refine m_blk 170 [(2, vi 0), (1, vi c), (0, vr 0 0)] [vr 0 0, vr 0 0] C f_q_next_169_1 rfl ?_
                            refine m_callV C Rm Y [] [vr 0 0] (q_wordRead l D B H0 ad _ hS t229) cl_Mo_162 rfl (by decide) rfl rfl e_q_next_170 rfl rfl rfl ⟨by decide, by decide⟩ ?_
                            rintro v232 A233 ⟨z236, rfl, rfl, raw_hz_n235⟩
                            have hz_n235 : -1 ≤ z236 ∧ z236 ≤ 5 := raw_hz_n235
                            show JM g D ad w0 (mu A2 0 0 25 2) 173 [(2, vi 0), (1, vi c), (0, vr 0 0)] [vi z236, vr 0 0]
                            refine m_puti C e_q_next_173 fp_Mo_165 rfl (by decide) rfl ?_
                            have t237 : mTy (mu (mu A2 0 0 25 2) 0 0 26 z236) := t229.mu (by show (-1) ≤ z236 ∧ z236 ≤ 255; omega)
                            have q238 := q230.mu (f := 0) (k := 0) (j := 26) (z := z236) (by simp [nm])
                            refine m_blk 178 [(2, vi 0), (1, vi c), (0, vr 0 0)] [vr 0 0, vr 0 0] C f_q_next_176_2 rfl ?_
                            refine m_geti C e_q_next_178 fg_Mo_165 rfl (by decide) rfl z236 rfl ?_
                            refine m_blk 182 [(2, vi 0), (1, vi c), (0, vr 0 0)] [vi (-1), vi z236, vr 0 0] C f_q_next_181_1 rfl ?_
                            refine m_icmp_ne (tgt := 189) C e_q_next_182 (by decide) (by omega) (by decide) (fun c239 => ?_) (fun c239 => ?_)
                            · refine m_blk 190 [(2, vi 0), (1, vi c), (0, vr 0 0)] [vi 0, vr 0 0] C f_q_next_189_1 rfl ?_
                              refine m_putz C e_q_next_190 fp_Mo_155 rfl (by decide) rfl (Or.inl rfl) ?_
                              have t240 : mTy (mu (mu (mu A2 0 0 25 2) 0 0 26 z236) 0 0 31 0) := t237.mu (by show 0 ≤ 0 ∧ 0 ≤ 1; omega)
                              have q241 := q238.mu (f := 0) (k := 0) (j := 31) (z := 0) (by simp [nm])
                              refine m_blk 347 [(2, vi 0), (1, vi c), (0, vr 0 0)] [] C f_q_next_193_1 rfl ?_
                              exact m_vret C Rm E e_q_next_347 ⟨rfl, t240, q241, (fun h9 => absurd h9 (by omega)), (by show A 0 0 31 = 0 → A 0 0 23 ≤ A2 0 0 24 ∧ A2 0 0 24 ≤ A2 0 0 23 ∧ A2 0 0 23 ≤ A2 0 0 22 ∧ (0 = 0 → (2 = 0 ∨ A2 0 0 24 < A2 0 0 23) ∧ (2 = 2 → 0 ≤ z236 ∧ z236 ≤ 5)); omega)⟩
                            · refine m_blk 190 [(2, vi 0), (1, vi c), (0, vr 0 0)] [vi 1, vr 0 0] C f_q_next_185_2 rfl ?_
                              refine m_putz C e_q_next_190 fp_Mo_155 rfl (by decide) rfl (Or.inr rfl) ?_
                              have t242 : mTy (mu (mu (mu A2 0 0 25 2) 0 0 26 z236) 0 0 31 1) := t237.mu (by show 0 ≤ 1 ∧ 1 ≤ 1; omega)
                              have q243 := q238.mu (f := 0) (k := 0) (j := 31) (z := 1) (by simp [nm])
                              refine m_blk 347 [(2, vi 0), (1, vi c), (0, vr 0 0)] [] C f_q_next_193_1 rfl ?_
                              exact m_vret C Rm E e_q_next_347 ⟨rfl, t242, q243, (fun h9 => absurd h9 (by omega)), (by show A 0 0 31 = 0 → A 0 0 23 ≤ A2 0 0 24 ∧ A2 0 0 24 ≤ A2 0 0 23 ∧ A2 0 0 23 ≤ A2 0 0 22 ∧ (1 = 0 → (2 = 0 ∨ A2 0 0 24 < A2 0 0 23) ∧ (2 = 2 → 0 ≤ z236 ∧ z236 ≤ 5)); omega)⟩
                          · refine m_blk 143 [(1, vi c), (0, vr 0 0)] [vi 1] C f_q_next_138_2 rfl ?_
                            refine m_blk 146 [(2, vi 1), (1, vi c), (0, vr 0 0)] [vi 1, vr 0 0] C f_q_next_143_3 rfl ?_
                            refine m_if_eq (tgt := 153) C e_q_next_146 (by decide) (by decide) (fun c244 => (by omega : False).elim) (fun c244 => ?_)
                            refine m_blk 154 [(2, vi 1), (1, vi c), (0, vr 0 0)] [vi 1, vr 0 0] C f_q_next_149_2 rfl ?_
                            refine m_puti C e_q_next_154 fp_Mo_159 rfl (by decide) rfl ?_
                            have t245 : mTy (mu A2 0 0 25 1) := hT2.mu (by show 0 ≤ 1 ∧ 1 ≤ 4; omega)
                            have q246 := hE2.mu (f := 0) (k := 0) (j := 25) (z := 1) (by simp [nm])
                            refine m_blk 159 [(2, vi 1), (1, vi c), (0, vr 0 0)] [vi 1, vr 0 0] C f_q_next_157_2 rfl ?_
                            refine m_if_eq (tgt := 169) C e_q_next_159 (by decide) (by decide) (fun c247 => (by omega : False).elim) (fun c247 => ?_)
                            refine m_blk 173 [(2, vi 1), (1, vi c), (0, vr 0 0)] [vi (c - 97), vr 0 0] C f_q_next_162_4 rfl ?_
                            refine m_puti C e_q_next_173 fp_Mo_165 rfl (by decide) rfl ?_
                            have t248 : mTy (mu (mu A2 0 0 25 1) 0 0 26 (c - 97)) := t245.mu (by show (-1) ≤ (c - 97) ∧ (c - 97) ≤ 255; omega)
                            have q249 := q246.mu (f := 0) (k := 0) (j := 26) (z := (c - 97)) (by simp [nm])
                            refine m_blk 178 [(2, vi 1), (1, vi c), (0, vr 0 0)] [vr 0 0, vr 0 0] C f_q_next_176_2 rfl ?_
                            refine m_geti C e_q_next_178 fg_Mo_165 rfl (by decide) rfl (c - 97) rfl ?_
                            refine m_blk 182 [(2, vi 1), (1, vi c), (0, vr 0 0)] [vi (-1), vi (c - 97), vr 0 0] C f_q_next_181_1 rfl ?_
                            refine m_icmp_ne (tgt := 189) C e_q_next_182 (by decide) (by omega) (by decide) (fun c250 => ?_) (fun c250 => ?_)
                            · refine m_blk 190 [(2, vi 1), (1, vi c), (0, vr 0 0)] [vi 0, vr 0 0] C f_q_next_189_1 rfl ?_
                              refine m_putz C e_q_next_190 fp_Mo_155 rfl (by decide) rfl (Or.inl rfl) ?_
                              have t251 : mTy (mu (mu (mu A2 0 0 25 1) 0 0 26 (c - 97)) 0 0 31 0) := t248.mu (by show 0 ≤ 0 ∧ 0 ≤ 1; omega)
                              have q252 := q249.mu (f := 0) (k := 0) (j := 31) (z := 0) (by simp [nm])
                              refine m_blk 347 [(2, vi 1), (1, vi c), (0, vr 0 0)] [] C f_q_next_193_1 rfl ?_
                              exact m_vret C Rm E e_q_next_347 ⟨rfl, t251, q252, (fun h9 => absurd h9 (by omega)), (by show A 0 0 31 = 0 → A 0 0 23 ≤ A2 0 0 24 ∧ A2 0 0 24 ≤ A2 0 0 23 ∧ A2 0 0 23 ≤ A2 0 0 22 ∧ (0 = 0 → (1 = 0 ∨ A2 0 0 24 < A2 0 0 23) ∧ (1 = 2 → 0 ≤ (c - 97) ∧ (c - 97) ≤ 5)); omega)⟩
                            · refine m_blk 190 [(2, vi 1), (1, vi c), (0, vr 0 0)] [vi 1, vr 0 0] C f_q_next_185_2 rfl ?_
                              refine m_putz C e_q_next_190 fp_Mo_155 rfl (by decide) rfl (Or.inr rfl) ?_
                              have t253 : mTy (mu (mu (mu A2 0 0 25 1) 0 0 26 (c - 97)) 0 0 31 1) := t248.mu (by show 0 ≤ 1 ∧ 1 ≤ 1; omega)
                              have q254 := q249.mu (f := 0) (k := 0) (j := 31) (z := 1) (by simp [nm])
                              refine m_blk 347 [(2, vi 1), (1, vi c), (0, vr 0 0)] [] C f_q_next_193_1 rfl ?_
                              exact m_vret C Rm E e_q_next_347 ⟨rfl, t253, q254, (fun h9 => absurd h9 (by omega)), (by show A 0 0 31 = 0 → A 0 0 23 ≤ A2 0 0 24 ∧ A2 0 0 24 ≤ A2 0 0 23 ∧ A2 0 0 23 ≤ A2 0 0 22 ∧ (1 = 0 → (1 = 0 ∨ A2 0 0 24 < A2 0 0 23) ∧ (1 = 2 → 0 ≤ (c - 97) ∧ (c - 97) ≤ 5)); omega)⟩
                      · refine m_blk 108 [(1, vi c), (0, vr 0 0)] [vr 0 0, vr 0 0] C f_q_next_106_2 rfl ?_
                        refine m_geti C e_q_next_108 fg_Mo_125 rfl (by decide) rfl x198 hx198 ?_
                        refine m_blk 113 [(1, vi c), (0, vr 0 0)] [vi (x198 + 1), vr 0 0] C f_q_next_111_2 rfl ?_
                        refine m_puti C e_q_next_113 fp_Mo_125 rfl (by decide) rfl ?_
                        have t255 : mTy (mu A2 0 0 23 (x198 + 1)) := hT2.mu (by show 0 ≤ (x198 + 1) ∧ (x198 + 1) ≤ 120; omega)
                        have q256 := hE2.mu (f := 0) (k := 0) (j := 23) (z := (x198 + 1)) (by simp [nm])
                        refine m_blk 88 [(1, vi c), (0, vr 0 0)] [] C f_q_next_116_1 rfl ?_
                        refine m_loc [(1, vi c), (0, vr 0 0)] ⟨rfl, rfl, trivial⟩ ?_
                        exact ih (mu A2 0 0 23 (x198 + 1)) c t255 q256 (by show A 0 0 23 ≤ A2 0 0 24 ∧ A2 0 0 24 < (x198 + 1) ∧ (x198 + 1) ≤ A2 0 0 22 ∧ A2 0 0 22 ≤ 120; omega) (by show A2 0 0 31 = 0; omega) (by show 97 ≤ c ∧ c ≤ 122; omega) (by have hm9 := hm; show (200 - (x198 + 1)) < _; omega)
                  refine m_loc [(1, vi z24), (0, vr 0 0)] ⟨rfl, rfl, trivial⟩ ?_
                  exact hd_88 (Int.toNat ((200 - (x3 + 1))) + 1) (mu (mu A1 0 0 24 x3) 0 0 23 (x3 + 1)) z24 t196 q197 (by show A 0 0 23 ≤ x3 ∧ x3 < (x3 + 1) ∧ (x3 + 1) ≤ A1 0 0 22 ∧ A1 0 0 22 ≤ 120; omega) (by show A1 0 0 31 = 0; omega) (by show 97 ≤ z24 ∧ z24 ≤ 122; omega) (by show (200 - (x3 + 1)) < _; omega)
            · refine m_blk 71 [(1, vi z24), (0, vr 0 0)] [vi 0, vr 0 0] C f_q_next_69_2 rfl ?_
              refine m_puti C e_q_next_71 fp_Mo_159 rfl (by decide) rfl ?_
              have t257 : mTy (mu (mu A1 0 0 24 x3) 0 0 25 0) := t18.mu (by show 0 ≤ 0 ∧ 0 ≤ 4; omega)
              have q258 := q19.mu (f := 0) (k := 0) (j := 25) (z := 0) (by simp [nm])
              refine m_blk 347 [(1, vi z24), (0, vr 0 0)] [] C f_q_next_74_1 rfl ?_
              exact m_vret C Rm E e_q_next_347 ⟨rfl, t257, q258, (fun h9 => absurd h9 (by omega)), (by show A 0 0 31 = 0 → A 0 0 23 ≤ x3 ∧ x3 ≤ A1 0 0 23 ∧ A1 0 0 23 ≤ A1 0 0 22 ∧ (A1 0 0 31 = 0 → (0 = 0 ∨ x3 < A1 0 0 23) ∧ (0 = 2 → 0 ≤ A1 0 0 26 ∧ A1 0 0 26 ≤ 5)); omega)⟩
          · refine m_blk 36 [(0, vr 0 0)] [vr 0 0, vr 0 0] C f_q_next_34_2 rfl ?_
            refine m_geti C e_q_next_36 fg_Mo_125 rfl (by decide) rfl x3 hx3 ?_
            refine m_blk 41 [(0, vr 0 0)] [vi (x3 + 1), vr 0 0] C f_q_next_39_2 rfl ?_
            refine m_puti C e_q_next_41 fp_Mo_125 rfl (by decide) rfl ?_
            have t259 : mTy (mu A1 0 0 23 (x3 + 1)) := hT1.mu (by show 0 ≤ (x3 + 1) ∧ (x3 + 1) ≤ 120; omega)
            have q260 := hE1.mu (f := 0) (k := 0) (j := 23) (z := (x3 + 1)) (by simp [nm])
            refine m_blk 8 [(0, vr 0 0)] [] C f_q_next_44_1 rfl ?_
            refine m_loc [(0, vr 0 0)] ⟨rfl, trivial⟩ ?_
            exact ih (mu A1 0 0 23 (x3 + 1)) t259 q260 (by show A 0 0 23 ≤ (x3 + 1) ∧ (x3 + 1) ≤ A1 0 0 22 ∧ A1 0 0 22 ≤ 120; omega) (by show A1 0 0 31 = 0; omega) (by have hm9 := hm; show (200 - (x3 + 1)) < _; omega)
    refine m_loc [(0, vr 0 0)] ⟨rfl, trivial⟩ ?_
    exact hd_8 (Int.toNat ((200 - A 0 0 23)) + 1) A hT hE0 (by show A 0 0 23 ≤ A 0 0 23 ∧ A 0 0 23 ≤ A 0 0 22 ∧ A 0 0 22 ≤ 120; omega) (by show A 0 0 31 = 0; omega) (by show (200 - A 0 0 23) < _; omega)
  · exact m_vret C Rm E e_q_next_7 ⟨rfl, hT, hE0, (fun _ => rfl), (by show A 0 0 31 = 0 → A 0 0 23 ≤ A 0 0 24 ∧ A 0 0 24 ≤ A 0 0 23 ∧ A 0 0 23 ≤ A 0 0 22 ∧ (A 0 0 31 = 0 → (A 0 0 25 = 0 ∨ A 0 0 24 < A 0 0 23) ∧ (A 0 0 25 = 2 → 0 ≤ A 0 0 26 ∧ A 0 0 26 ≤ 5)); omega)⟩
