/-! the reference: draw, times (own work, by program) -/
theorem dr_end {w al q : Int} (hw : 1 ≤ w) (ha : 1 ≤ al) (hq : q = Int.tdiv w al) : q * al ≤ w ∧ 0 ≤ q * al ∧ 0 ≤ q := by
  have e : q = w / al := by rw [hq]; exact Int.tdiv_eq_ediv_of_nonneg (by omega)
  have q0 : 0 ≤ q := by rw [e]; exact Int.ediv_nonneg (by omega) (by omega)
  exact ⟨by rw [e]; exact Int.ediv_mul_le w (by omega), Int.mul_nonneg q0 (by omega), q0⟩
theorem sh_and (y : Int) : ((Int32.ofInt y).toInt64 &&& 63).toBitVec.toNat = (y % 64).toNat := by
  have e0 : ((Int32.ofInt y).toInt64 &&& 63).toBitVec = (BitVec.ofInt 32 y).signExtend 64 &&& 63#64 := rfl
  have e : (63#64 : BitVec 64).toNat = 2 ^ 6 - 1 := rfl
  rw [e0, BitVec.toNat_and, e, Nat.and_two_pow_sub_one_eq_mod, BitVec.toNat_signExtend, BitVec.toNat_setWidth, BitVec.toNat_ofInt]
  split <;> omega
theorem sh_ok (y : Int) : (((Int32.ofInt y).toInt64 &&& 63).toBitVec.smod 64).toNat = (y % 64).toNat := by
  have h := sh_and y
  have hm : ((Int32.ofInt y).toInt64 &&& 63).toBitVec.msb = false := by
    rw [BitVec.msb_eq_decide, h]
    exact decide_eq_false (by omega)
  have h64 : (64 : BitVec 64).msb = false := by decide
  rw [BitVec.toNat_smod, hm, h64]
  show ((((Int32.ofInt y).toInt64 &&& 63).toBitVec) % (64 : BitVec 64)).toNat = _
  rw [BitVec.toNat_umod, h]
  show (y % 64).toNat % 64 = _
  omega
theorem lShr_ok {x : Int} (hx : 0 ≤ x ∧ x ≤ 1125899906842624) (y : Int) : lShr x y = x / 2 ^ (y % 64).toNat := by
  show (BitVec.sshiftRight' (Int64.ofInt x).toBitVec (((Int32.ofInt y).toInt64 &&& 63).toBitVec.smod 64)).toInt = _
  rw [BitVec.toInt_sshiftRight', sh_ok]
  have e : (Int64.ofInt x).toBitVec.toInt = x := lR (x := x) (by omega)
  rw [e, Int.shiftRight_eq_div_pow]
  rfl
theorem tm_ok {a b n z : Int} (ha : 0 ≤ a ∧ a ≤ 1125899906842624) (hb : 0 ≤ b ∧ b ≤ 1125899906842624) (hz : z = lShr a (50 - n) * lShr b n) : 0 ≤ z ∧ z * 1125899906842624 ≤ a * b := by
  rw [hz, lShr_ok ha, lShr_ok hb]
  obtain ⟨s1, h1⟩ : ∃ s, s = ((50 - n) % 64).toNat := ⟨_, rfl⟩
  obtain ⟨s2, h2⟩ : ∃ s, s = (n % 64).toNat := ⟨_, rfl⟩
  rw [← h1, ← h2]
  have hs : 50 ≤ s1 + s2 := by omega
  have p1 : (0 : Int) < 2 ^ s1 := Int.pow_pos (by decide)
  have p2 : (0 : Int) < 2 ^ s2 := Int.pow_pos (by decide)
  have n1 : 0 ≤ a / 2 ^ s1 := Int.ediv_nonneg ha.1 (Int.le_of_lt p1)
  have n2 : 0 ≤ b / 2 ^ s2 := Int.ediv_nonneg hb.1 (Int.le_of_lt p2)
  have l1 : a / 2 ^ s1 * 2 ^ s1 ≤ a := Int.ediv_mul_le a (by omega)
  have l2 : b / 2 ^ s2 * 2 ^ s2 ≤ b := Int.ediv_mul_le b (by omega)
  have n3 : 0 ≤ a / 2 ^ s1 * (b / 2 ^ s2) := Int.mul_nonneg n1 n2
  refine ⟨n3, ?_⟩
  have m1 : (a / 2 ^ s1 * 2 ^ s1) * (b / 2 ^ s2 * 2 ^ s2) ≤ a * b := Int.mul_le_mul l1 l2 (Int.mul_nonneg n2 (Int.le_of_lt p2)) ha.1
  have m2 : (a / 2 ^ s1 * 2 ^ s1) * (b / 2 ^ s2 * 2 ^ s2) = a / 2 ^ s1 * (b / 2 ^ s2) * 2 ^ (s1 + s2) := by
    rw [Int.pow_add]
    ac_rfl
  have m3 : (1125899906842624 : Int) ≤ 2 ^ (s1 + s2) := by
    have : (2 : Int) ^ 50 ≤ 2 ^ (s1 + s2) := by
      have := Nat.pow_le_pow_right (n := 2) (by decide) hs
      exact_mod_cast this
    exact this
  have m4 : a / 2 ^ s1 * (b / 2 ^ s2) * 1125899906842624 ≤ a / 2 ^ s1 * (b / 2 ^ s2) * 2 ^ (s1 + s2) := Int.mul_le_mul_of_nonneg_left m3 n3
  omega
theorem f_q_draw_0_1 : mblkB b_Mo_draw [(0, .aload_n 0, vi 0)] = true := by decide +kernel
theorem e_q_draw_1 : decode b_Mo_draw 1 = .ok (.invokevirtual 275, 3) := by decide +kernel
theorem f_q_draw_4_4 : mblkB b_Mo_draw [(4, .astore 4, vi 0), (6, .aload_n 0, vi 0), (7, .iload_n 1, vi 0), (8, .iload_n 2, vi 0)] = true := by decide +kernel
theorem e_q_draw_9 : decode b_Mo_draw 9 = .ok (.invokevirtual 232, 3) := by decide +kernel
theorem f_q_draw_12_3 : mblkB b_Mo_draw [(12, .istore 5, vi 0), (14, .iconst 0, vi 0), (15, .istore 6, vi 0)] = true := by decide +kernel
theorem f_q_draw_17_2 : mblkB b_Mo_draw [(17, .iload 6, vi 0), (19, .aload_n 3, vi 0)] = true := by decide +kernel
theorem e_q_draw_20 : decode b_Mo_draw 20 = .ok (.getfield 272, 3) := by decide +kernel
theorem e_q_draw_23 : decode b_Mo_draw 23 = .ok (.if_icmp .ge 101, 3) := by decide +kernel
theorem f_q_draw_124_1 : mblkB b_Mo_draw [(124, .aload 4, vi 0)] = true := by decide +kernel
theorem e_q_draw_126 : decode b_Mo_draw 126 = .ok (.areturn, 1) := by decide +kernel
theorem f_q_draw_26_1 : mblkB b_Mo_draw [(26, .aload_n 0, vi 0)] = true := by decide +kernel
theorem e_q_draw_27 : decode b_Mo_draw 27 = .ok (.getfield 39, 3) := by decide +kernel
theorem f_q_draw_30_1 : mblkB b_Mo_draw [(30, .iload_n 1, vi 0)] = true := by decide +kernel
theorem e_q_draw_31 : decode b_Mo_draw 31 = .ok (.aaload, 1) := by decide +kernel
theorem f_q_draw_32_1 : mblkB b_Mo_draw [(32, .iload_n 2, vi 0)] = true := by decide +kernel
theorem e_q_draw_33 : decode b_Mo_draw 33 = .ok (.iaload, 1) := by decide +kernel
theorem f_q_draw_34_1 : mblkB b_Mo_draw [(34, .istore 7, vi 0)] = true := by decide +kernel
theorem f_q_draw_36_2 : mblkB b_Mo_draw [(36, .iload 7, vi 0), (38, .aload_n 0, vi 0)] = true := by decide +kernel
theorem e_q_draw_39 : decode b_Mo_draw 39 = .ok (.getfield 39, 3) := by decide +kernel
theorem f_q_draw_42_1 : mblkB b_Mo_draw [(42, .iload_n 1, vi 0)] = true := by decide +kernel
theorem e_q_draw_43 : decode b_Mo_draw 43 = .ok (.aaload, 1) := by decide +kernel
theorem f_q_draw_44_1 : mblkB b_Mo_draw [(44, .iload_n 2, vi 0)] = true := by decide +kernel
theorem e_q_draw_45 : decode b_Mo_draw 45 = .ok (.iaload, 1) := by decide +kernel
theorem f_q_draw_46_1 : mblkB b_Mo_draw [(46, .aload_n 0, vi 0)] = true := by decide +kernel
theorem e_q_draw_47 : decode b_Mo_draw 47 = .ok (.getfield 27, 3) := by decide +kernel
theorem f_q_draw_50_1 : mblkB b_Mo_draw [(50, .iload_n 1, vi 0)] = true := by decide +kernel
theorem e_q_draw_51 : decode b_Mo_draw 51 = .ok (.aaload, 1) := by decide +kernel
theorem f_q_draw_52_1 : mblkB b_Mo_draw [(52, .iload_n 2, vi 0)] = true := by decide +kernel
theorem e_q_draw_53 : decode b_Mo_draw 53 = .ok (.iaload, 1) := by decide +kernel
theorem f_q_draw_54_1 : mblkB b_Mo_draw [(54, .iadd, vi 0)] = true := by decide +kernel
theorem e_q_draw_55 : decode b_Mo_draw 55 = .ok (.if_icmp .ge 63, 3) := by decide +kernel
theorem f_q_draw_118_2 : mblkB b_Mo_draw [(118, .iinc 6 1, vi 1), (121, .goto (-104), vi 17)] = true := by decide +kernel
theorem f_q_draw_58_2 : mblkB b_Mo_draw [(58, .aload 4, vi 0), (60, .aload_n 3, vi 0)] = true := by decide +kernel
theorem e_q_draw_61 : decode b_Mo_draw 61 = .ok (.getfield 279, 3) := by decide +kernel
theorem f_q_draw_64_1 : mblkB b_Mo_draw [(64, .iload 6, vi 0)] = true := by decide +kernel
theorem e_q_draw_66 : decode b_Mo_draw 66 = .ok (.iaload, 1) := by decide +kernel
theorem f_q_draw_67_1 : mblkB b_Mo_draw [(67, .aload_n 0, vi 0)] = true := by decide +kernel
theorem e_q_draw_68 : decode b_Mo_draw 68 = .ok (.getfield 24, 3) := by decide +kernel
theorem f_q_draw_71_1 : mblkB b_Mo_draw [(71, .iload_n 1, vi 0)] = true := by decide +kernel
theorem e_q_draw_72 : decode b_Mo_draw 72 = .ok (.aaload, 1) := by decide +kernel
theorem f_q_draw_73_1 : mblkB b_Mo_draw [(73, .iload_n 2, vi 0)] = true := by decide +kernel
theorem e_q_draw_74 : decode b_Mo_draw 74 = .ok (.iaload, 1) := by decide +kernel
theorem f_q_draw_75_1 : mblkB b_Mo_draw [(75, .aload_n 0, vi 0)] = true := by decide +kernel
theorem e_q_draw_76 : decode b_Mo_draw 76 = .ok (.getfield 42, 3) := by decide +kernel
theorem f_q_draw_79_1 : mblkB b_Mo_draw [(79, .iload_n 1, vi 0)] = true := by decide +kernel
theorem e_q_draw_80 : decode b_Mo_draw 80 = .ok (.aaload, 1) := by decide +kernel
theorem f_q_draw_81_1 : mblkB b_Mo_draw [(81, .iload 7, vi 0)] = true := by decide +kernel
theorem e_q_draw_83 : decode b_Mo_draw 83 = .ok (.iaload, 1) := by decide +kernel
theorem e_q_draw_84 : decode b_Mo_draw 84 = .ok (.invokestatic 282, 3) := by decide +kernel
theorem f_q_draw_87_1 : mblkB b_Mo_draw [(87, .aload_n 3, vi 0)] = true := by decide +kernel
theorem e_q_draw_88 : decode b_Mo_draw 88 = .ok (.getfield 285, 3) := by decide +kernel
theorem f_q_draw_91_1 : mblkB b_Mo_draw [(91, .iload 6, vi 0)] = true := by decide +kernel
theorem e_q_draw_93 : decode b_Mo_draw 93 = .ok (.laload, 1) := by decide +kernel
theorem f_q_draw_94_1 : mblkB b_Mo_draw [(94, .iload 5, vi 0)] = true := by decide +kernel
theorem e_q_draw_96 : decode b_Mo_draw 96 = .ok (.i2l, 1) := by decide +kernel
theorem e_q_draw_97 : decode b_Mo_draw 97 = .ok (.ldiv, 1) := by decide +kernel
theorem f_q_draw_98_1 : mblkB b_Mo_draw [(98, .aload_n 0, vi 0)] = true := by decide +kernel
theorem e_q_draw_99 : decode b_Mo_draw 99 = .ok (.getfield 45, 3) := by decide +kernel
theorem f_q_draw_102_1 : mblkB b_Mo_draw [(102, .iload_n 1, vi 0)] = true := by decide +kernel
theorem e_q_draw_103 : decode b_Mo_draw 103 = .ok (.aaload, 1) := by decide +kernel
theorem f_q_draw_104_1 : mblkB b_Mo_draw [(104, .iload 7, vi 0)] = true := by decide +kernel
theorem e_q_draw_106 : decode b_Mo_draw 106 = .ok (.iaload, 1) := by decide +kernel
theorem e_q_draw_107 : decode b_Mo_draw 107 = .ok (.i2l, 1) := by decide +kernel
theorem f_q_draw_108_1 : mblkB b_Mo_draw [(108, .lmul, vi 0)] = true := by decide +kernel
theorem e_q_draw_109 : decode b_Mo_draw 109 = .ok (.invokevirtual 289, 3) := by decide +kernel
theorem f_q_draw_112_2 : mblkB b_Mo_draw [(112, .iinc 7 1, vi 1), (115, .goto (-79), vi 36)] = true := by decide +kernel
set_option maxHeartbeats 40000000 in
set_option maxRecDepth 100000 in
theorem q_draw (l : Launch) (D : va_G) (B : Nat) (H0 : Heap) (ad : mAd) (A : mA) (hT : mTy A) (u : Int) (T : Int) (N : Int) (M : Int) (Ln : Int) (dep : Nat → Int) (p : Int) (i : Int) (ki : Nat) (hp : 0 ≤ p ∧ p ≤ 5) (hK : pK A p.toNat N M Ln dep) (hi : 0 ≤ i ∧ i < N) (hu : A 0 0 33 = u ∧ 0 ≤ u ∧ u ≤ 199) (hk : (ki : Int) < u) (hO : oG A ki T) (hT9 : 0 ≤ T ∧ T ≤ 1125899906842624) (hkd : A 34 p.toNat i.toNat = 0)  : mMet l D B H0 ad y_Mo_draw b_Mo_draw 8 (some (.object "ChanceStepsModel$Odds")) 4 200 [vr 0 0, vi p, vi i, vr 1 ki] A (fun v9 A9 => ∃ z : Nat, v9 = some (vr 1 z) ∧ mTy A9 ∧ mEq (dm u.toNat) A A9 ∧ ((z : Int) = u) ∧ (A9 0 0 33 = u + 1) ∧ (oG A9 z T)) := by
  refine m_met (by decide) rfl (fun g w0 C Rm Y E => ?_)
  have hE0 : mEq (dm u.toNat) A A := mEq.rfl'
  show JM g D ad w0 A 0 [(0, vr 0 0), (1, vi p), (2, vi i), (3, vr 1 ki)] []
  have rk9 : 0 ≤ A 1 ki 2 ∧ A 1 ki 2 ≤ 301 := hT 1 ki 2
  obtain ⟨SJ, hSJ⟩ : ∃ f : Int → Int, ∀ j, f j = ws (A 4 ki) 0 (Int.toNat j) := ⟨_, fun _ => rfl⟩
  obtain ⟨fl, hfl⟩ : ∃ x, A 40 p.toNat i.toNat = x := ⟨_, rfl⟩
  obtain ⟨nu, hnu⟩ : ∃ x, A 36 p.toNat i.toNat = x := ⟨_, rfl⟩
  have hr9 := hK.rng
  have hs9 := hK.at (i := i) (by omega) (by omega)
  have f9 := hs9.k0 hkd
  rw [hfl, hnu] at f9
  have rnu : -1 ≤ nu ∧ nu ≤ 9 := mrg hT hnu rfl
  have hna := hs9.2.2.2.2.1 (Or.inl hkd)
  obtain ⟨SW, hSW⟩ : ∃ f : Int → Int, ∀ k, f k = ws (A 42 p.toNat) fl.toNat (Int.toNat k) := ⟨_, fun _ => rfl⟩
  refine m_blk 1 [(0, vr 0 0), (1, vi p), (2, vi i), (3, vr 1 ki)] [vr 0 0] C f_q_draw_0_1 rfl ?_
  refine m_callV C Rm Y [] [] (q_taken l D B H0 ad _ hT u (by show A 0 0 33 = u ∧ 0 ≤ u ∧ u ≤ 199; omega)) cl_Mo_275 rfl (by decide) rfl rfl e_q_draw_1 rfl rfl rfl ⟨by decide, by decide⟩ ?_
  rintro v1 A2 ⟨z5, rfl, hT_n4, hE_n4, raw_hz_n4, raw_hu_n4, raw_hm_n4⟩
  have hF_n4 := hE0.trans (hE_n4.sub (tk_dm (by omega)))
  have hz_n4 : (z5 : Int) = u := raw_hz_n4
  clear raw_hz_n4
  have hu_n4 : A2 0 0 33 = u + 1 := raw_hu_n4
  clear raw_hu_n4
  have hm_n4 : A2 1 z5 2 = 0 := raw_hm_n4
  clear raw_hm_n4
  show JM g D ad w0 A2 4 [(0, vr 0 0), (1, vi p), (2, vi i), (3, vr 1 ki)] [vr 1 z5]
  have hfl1 : A2 40 p.toNat i.toNat = fl := (hF_n4 40 p.toNat i.toNat (dm_far (by decide) _)).trans hfl
  have hnu1 : A2 36 p.toNat i.toNat = nu := (hF_n4 36 p.toNat i.toNat (dm_far (by decide) _)).trans hnu
  have h42 : A2 42 p.toNat = A 42 p.toNat := funext fun j9 => hF_n4 42 p.toNat j9 (dm_far (by decide) _)
  refine m_blk 9 [(4, vr 1 z5), (0, vr 0 0), (1, vi p), (2, vi i), (3, vr 1 ki)] [vi i, vi p, vr 0 0] C f_q_draw_4_4 rfl ?_
  refine m_callV C Rm Y [vi p, vi i] [] (q_lotsAll l D B H0 ad _ hT_n4 fl nu p i (by show 0 ≤ p ∧ p ≤ 5 ∧ 0 ≤ i ∧ i ≤ 15; omega) ⟨hfl1, hnu1, by omega, by omega, by omega, by omega⟩) cl_Mo_232 rfl (by decide) rfl rfl e_q_draw_9 rfl rfl rfl ⟨by decide, by decide⟩ ?_
  rintro v6 A7 ⟨z10, rfl, rfl, raw_hz_n9⟩
  have hz_n9 : z10 = ws (A2 42 p.toNat) fl.toNat nu.toNat ∧ 0 ≤ z10 ∧ z10 ≤ 16 * nu := raw_hz_n9
  clear raw_hz_n9
  show JM g D ad w0 A2 12 [(4, vr 1 z5), (0, vr 0 0), (1, vi p), (2, vi i), (3, vr 1 ki)] [vi z10]
  have hal : z10 = SW nu := by rw [hSW, ← h42]; exact hz_n9.1
  have hal1 : 1 ≤ z10 := by rw [hal, hSW]; exact f9.2.2.2
  refine m_blk 17 [(6, vi 0), (5, vi z10), (4, vr 1 z5), (0, vr 0 0), (1, vi p), (2, vi i), (3, vr 1 ki)] [] C f_q_draw_12_3 rfl ?_
  have hd_17 : ∀ (NZ : Nat) (A2 : mA) (j : Int), mTy A2 → mEq (dm u.toNat) A A2 → oG A2 z5 (SJ j) → 0 ≤ j ∧ j ≤ A 1 ki 2 ∧ A 1 ki 2 ≤ 301 → A2 0 0 33 = u + 1 → (400 - j) < (NZ : Int) → JM g D ad w0 A2 17 [(6, vi j), (4, vr 1 z5), (0, vr 0 0), (1, vi p), (2, vi i), (3, vr 1 ki), (5, vi z10)] [] := by
    intro NZ
    induction NZ with
    | zero => intro A2 j hT2 hE2 hO2 hj hu2 hm17; exact absurd hm17 (by omega)
    | succ NZ ih17 =>
      intro A2 j hT2 hE2 hO2 hj hu2 hm17
      have w9 : A2 1 ki 2 = A 1 ki 2 := hE2 1 ki 2 (dm_lo (by omega) (by decide) 2)
      have rmT : ∀ f9 j9, f9 ≠ 0 → A2 f9 ki j9 = A f9 ki j9 := fun f9 j9 h9 => hE2 f9 ki j9 (dm_lo (by omega) h9 j9)
      have far : ∀ f9 k9 j9, 5 ≤ f9 → A2 f9 k9 j9 = A f9 k9 j9 := fun f9 k9 j9 h9 => hE2 f9 k9 j9 (dm_far h9 j9)
      have hfl2 : A2 40 p.toNat i.toNat = fl := (far 40 p.toNat i.toNat (by decide)).trans hfl
      have hnu2 : A2 36 p.toNat i.toNat = nu := (far 36 p.toNat i.toNat (by decide)).trans hnu
      refine m_blk 20 [(6, vi j), (4, vr 1 z5), (0, vr 0 0), (1, vi p), (2, vi i), (3, vr 1 ki), (5, vi z10)] [vr 1 ki, vi j] C f_q_draw_17_2 rfl ?_
      obtain ⟨x11, hx11⟩ : ∃ x, A2 1 ki 2 = x := ⟨_, rfl⟩
      have rx11 : 0 ≤ x11 ∧ x11 ≤ 301 := mrg hT2 hx11 rfl
      refine m_getiN C e_q_draw_20 fg_Mo_272 rfl (by omega) rfl x11 hx11 ?_
      refine m_icmp_ge (tgt := 124) C e_q_draw_23 (by decide) (by omega) (by omega) (fun c12 => ?_) (fun c12 => ?_)
      · refine m_blk 126 [(6, vi j), (4, vr 1 z5), (0, vr 0 0), (1, vi p), (2, vi i), (3, vr 1 ki), (5, vi z10)] [vr 1 z5] C f_q_draw_124_1 rfl ?_
        exact m_aret C Rm E e_q_draw_126 ⟨z5, rfl, hT2, hE2, (by show (z5 : Int) = u; omega), (by show A2 0 0 33 = u + 1; omega), (hO2.le (by have e9 : j = A 1 ki 2 := (by omega); rw [hSJ, e9]; exact (hO.tot (by omega)).2))⟩
      · have pw9 : 0 ≤ SJ j ∧ 1 ≤ A 4 ki (Int.toNat j) ∧ SJ j + A 4 ki (Int.toNat j) ≤ T ∧ SJ (j + 1) = SJ j + A 4 ki (Int.toNat j) := by rw [hSJ, hSJ]; exact hO.part (j := j) (by omega) (by omega)
        obtain ⟨wj, hwj⟩ : ∃ x, A 4 ki (Int.toNat j) = x := ⟨_, rfl⟩
        rw [hwj] at pw9
        obtain ⟨q, hq⟩ : ∃ q, q = Int.tdiv wj z10 := ⟨_, rfl⟩
        have de9 := dr_end pw9.2.1 hal1 hq
        refine m_blk 27 [(6, vi j), (4, vr 1 z5), (0, vr 0 0), (1, vi p), (2, vi i), (3, vr 1 ki), (5, vi z10)] [vr 0 0] C f_q_draw_26_1 rfl ?_
        refine m_getr C e_q_draw_27 fg_Mo_39 rfl (by decide) rfl ?_
        refine m_blk 31 [(6, vi j), (4, vr 1 z5), (0, vr 0 0), (1, vi p), (2, vi i), (3, vr 1 ki), (5, vi z10)] [vi p, vr 20 0] C f_q_draw_30_1 rfl ?_
        refine m_aald C p.toNat e_q_draw_31 rfl rfl rfl (by decide) (by decide) (by omega) (by show p < ((6 : Nat) : Int); omega) (mz _ _) ?_
        refine m_blk 33 [(6, vi j), (4, vr 1 z5), (0, vr 0 0), (1, vi p), (2, vi i), (3, vr 1 ki), (5, vi z10)] [vi i, vr 40 p.toNat] C f_q_draw_32_1 rfl ?_
        refine m_iald C e_q_draw_33 rfl (by omega) (by decide) (by omega) (by show i < ((16 : Nat) : Int); omega) fl hfl2 ?_
        refine m_blk 36 [(7, vi fl), (6, vi j), (4, vr 1 z5), (0, vr 0 0), (1, vi p), (2, vi i), (3, vr 1 ki), (5, vi z10)] [] C f_q_draw_34_1 rfl ?_
        have hd_36 : ∀ (NZ : Nat) (A3 : mA) (l9 : Int), mTy A3 → mEq (dm u.toNat) A A3 → oG A3 z5 (SJ j + q * SW (l9 - fl)) → fl ≤ l9 ∧ l9 ≤ fl + nu → A3 0 0 33 = u + 1 → (200 - l9) < (NZ : Int) → JM g D ad w0 A3 36 [(7, vi l9), (6, vi j), (4, vr 1 z5), (0, vr 0 0), (1, vi p), (2, vi i), (3, vr 1 ki), (5, vi z10)] [] := by
          intro NZ
          induction NZ with
          | zero => intro A3 l9 hT3 hE3 hO3 hl9 hu3 hm36; exact absurd hm36 (by omega)
          | succ NZ ih36 =>
            intro A3 l9 hT3 hE3 hO3 hl9 hu3 hm36
            have far3 : ∀ f9 k9 j9, 5 ≤ f9 → A3 f9 k9 j9 = A f9 k9 j9 := fun f9 k9 j9 h9 => hE3 f9 k9 j9 (dm_far h9 j9)
            have rmT3 : ∀ f9 j9, f9 ≠ 0 → A3 f9 ki j9 = A f9 ki j9 := fun f9 j9 h9 => hE3 f9 ki j9 (dm_lo (by omega) h9 j9)
            have hfl3 : A3 40 p.toNat i.toNat = fl := (far3 40 p.toNat i.toNat (by decide)).trans hfl
            have hnu3 : A3 36 p.toNat i.toNat = nu := (far3 36 p.toNat i.toNat (by decide)).trans hnu
            have hna3 : 0 ≤ A3 35 p.toNat i.toNat := by rw [far3 35 p.toNat i.toNat (by decide)]; exact hna
            refine m_blk 39 [(7, vi l9), (6, vi j), (4, vr 1 z5), (0, vr 0 0), (1, vi p), (2, vi i), (3, vr 1 ki), (5, vi z10)] [vr 0 0, vi l9] C f_q_draw_36_2 rfl ?_
            refine m_getr C e_q_draw_39 fg_Mo_39 rfl (by decide) rfl ?_
            refine m_blk 43 [(7, vi l9), (6, vi j), (4, vr 1 z5), (0, vr 0 0), (1, vi p), (2, vi i), (3, vr 1 ki), (5, vi z10)] [vi p, vr 20 0, vi l9] C f_q_draw_42_1 rfl ?_
            refine m_aald C p.toNat e_q_draw_43 rfl rfl rfl (by decide) (by decide) (by omega) (by show p < ((6 : Nat) : Int); omega) (mz _ _) ?_
            refine m_blk 45 [(7, vi l9), (6, vi j), (4, vr 1 z5), (0, vr 0 0), (1, vi p), (2, vi i), (3, vr 1 ki), (5, vi z10)] [vi i, vr 40 p.toNat, vi l9] C f_q_draw_44_1 rfl ?_
            refine m_iald C e_q_draw_45 rfl (by omega) (by decide) (by omega) (by show i < ((16 : Nat) : Int); omega) fl hfl3 ?_
            refine m_blk 47 [(7, vi l9), (6, vi j), (4, vr 1 z5), (0, vr 0 0), (1, vi p), (2, vi i), (3, vr 1 ki), (5, vi z10)] [vr 0 0, vi fl, vi l9] C f_q_draw_46_1 rfl ?_
            refine m_getr C e_q_draw_47 fg_Mo_27 rfl (by decide) rfl ?_
            refine m_blk 51 [(7, vi l9), (6, vi j), (4, vr 1 z5), (0, vr 0 0), (1, vi p), (2, vi i), (3, vr 1 ki), (5, vi z10)] [vi p, vr 16 0, vi fl, vi l9] C f_q_draw_50_1 rfl ?_
            refine m_aald C p.toNat e_q_draw_51 rfl rfl rfl (by decide) (by decide) (by omega) (by show p < ((6 : Nat) : Int); omega) (mz _ _) ?_
            refine m_blk 53 [(7, vi l9), (6, vi j), (4, vr 1 z5), (0, vr 0 0), (1, vi p), (2, vi i), (3, vr 1 ki), (5, vi z10)] [vi i, vr 36 p.toNat, vi fl, vi l9] C f_q_draw_52_1 rfl ?_
            refine m_iald C e_q_draw_53 rfl (by omega) (by decide) (by omega) (by show i < ((16 : Nat) : Int); omega) nu hnu3 ?_
            refine m_blk 55 [(7, vi l9), (6, vi j), (4, vr 1 z5), (0, vr 0 0), (1, vi p), (2, vi i), (3, vr 1 ki), (5, vi z10)] [vi (fl + nu), vi l9] C f_q_draw_54_1 rfl ?_
            refine m_icmp_ge (tgt := 118) C e_q_draw_55 (by decide) (by omega) (by omega) (fun c13 => ?_) (fun c13 => ?_)
            · refine m_blk 17 [(6, vi (j + 1)), (7, vi l9), (4, vr 1 z5), (0, vr 0 0), (1, vi p), (2, vi i), (3, vr 1 ki), (5, vi z10)] [] C f_q_draw_118_2 rfl ?_
              refine m_loc [(6, vi (j + 1)), (4, vr 1 z5), (0, vr 0 0), (1, vi p), (2, vi i), (3, vr 1 ki), (5, vi z10)] ⟨rfl, rfl, rfl, rfl, rfl, rfl, rfl, trivial⟩ ?_
              exact ih17 A3 (j + 1) hT3 hE3 (hO3.le (by rw [show l9 - fl = nu by omega, ← hal]; omega)) (by show 0 ≤ (j + 1) ∧ (j + 1) ≤ A 1 ki 2 ∧ A 1 ki 2 ≤ 301; omega) (by show A3 0 0 33 = u + 1; omega) (by show (400 - (j + 1)) < _; omega)
            · refine m_blk 61 [(7, vi l9), (6, vi j), (4, vr 1 z5), (0, vr 0 0), (1, vi p), (2, vi i), (3, vr 1 ki), (5, vi z10)] [vr 1 ki, vr 1 z5] C f_q_draw_58_2 rfl ?_
              refine m_getrN C e_q_draw_61 fg_Mo_279 rfl (by omega) rfl ?_
              refine m_blk 66 [(7, vi l9), (6, vi j), (4, vr 1 z5), (0, vr 0 0), (1, vi p), (2, vi i), (3, vr 1 ki), (5, vi z10)] [vi j, vr 3 ki, vr 1 z5] C f_q_draw_64_1 rfl ?_
              obtain ⟨x14, hx14⟩ : ∃ x, A3 3 ki j.toNat = x := ⟨_, rfl⟩
              have rx14 : 0 ≤ x14 ∧ x14 ≤ 9999999 := mrg hT3 hx14 rfl
              refine m_iald C e_q_draw_66 rfl (by omega) (by decide) (by omega) (by show j < ((301 : Nat) : Int); omega) x14 hx14 ?_
              refine m_blk 68 [(7, vi l9), (6, vi j), (4, vr 1 z5), (0, vr 0 0), (1, vi p), (2, vi i), (3, vr 1 ki), (5, vi z10)] [vr 0 0, vi x14, vr 1 z5] C f_q_draw_67_1 rfl ?_
              refine m_getr C e_q_draw_68 fg_Mo_24 rfl (by decide) rfl ?_
              refine m_blk 72 [(7, vi l9), (6, vi j), (4, vr 1 z5), (0, vr 0 0), (1, vi p), (2, vi i), (3, vr 1 ki), (5, vi z10)] [vi p, vr 15 0, vi x14, vr 1 z5] C f_q_draw_71_1 rfl ?_
              refine m_aald C p.toNat e_q_draw_72 rfl rfl rfl (by decide) (by decide) (by omega) (by show p < ((6 : Nat) : Int); omega) (mz _ _) ?_
              refine m_blk 74 [(7, vi l9), (6, vi j), (4, vr 1 z5), (0, vr 0 0), (1, vi p), (2, vi i), (3, vr 1 ki), (5, vi z10)] [vi i, vr 35 p.toNat, vi x14, vr 1 z5] C f_q_draw_73_1 rfl ?_
              obtain ⟨x15, hx15⟩ : ∃ x, A3 35 p.toNat i.toNat = x := ⟨_, rfl⟩
              have rx15 : (-1) ≤ x15 ∧ x15 ≤ 5 := mrg hT3 hx15 rfl
              refine m_iald C e_q_draw_74 rfl (by omega) (by decide) (by omega) (by show i < ((16 : Nat) : Int); omega) x15 hx15 ?_
              refine m_blk 76 [(7, vi l9), (6, vi j), (4, vr 1 z5), (0, vr 0 0), (1, vi p), (2, vi i), (3, vr 1 ki), (5, vi z10)] [vr 0 0, vi x15, vi x14, vr 1 z5] C f_q_draw_75_1 rfl ?_
              refine m_getr C e_q_draw_76 fg_Mo_42 rfl (by decide) rfl ?_
              refine m_blk 80 [(7, vi l9), (6, vi j), (4, vr 1 z5), (0, vr 0 0), (1, vi p), (2, vi i), (3, vr 1 ki), (5, vi z10)] [vi p, vr 21 0, vi x15, vi x14, vr 1 z5] C f_q_draw_79_1 rfl ?_
              refine m_aald C p.toNat e_q_draw_80 rfl rfl rfl (by decide) (by decide) (by omega) (by show p < ((6 : Nat) : Int); omega) (mz _ _) ?_
              refine m_blk 83 [(7, vi l9), (6, vi j), (4, vr 1 z5), (0, vr 0 0), (1, vi p), (2, vi i), (3, vr 1 ki), (5, vi z10)] [vi l9, vr 41 p.toNat, vi x15, vi x14, vr 1 z5] C f_q_draw_81_1 rfl ?_
              obtain ⟨x16, hx16⟩ : ∃ x, A3 41 p.toNat l9.toNat = x := ⟨_, rfl⟩
              have rx16 : 0 ≤ x16 ∧ x16 ≤ 9 := mrg hT3 hx16 rfl
              refine m_iald C e_q_draw_83 rfl (by omega) (by decide) (by omega) (by show l9 < ((120 : Nat) : Int); omega) x16 hx16 ?_
              refine m_callS C Rm Y [vi x14, vi x15, vi x16] [vr 1 z5] (q_with l D B H0 ad _ x14 x15 x16 (by show 0 ≤ x14 ∧ x14 ≤ 9999999; omega) (by show -1 ≤ x15 ∧ x15 ≤ 5; omega) (by show 0 ≤ x16 ∧ x16 ≤ 9; omega)) cl_Mo_282 e_q_draw_84 rfl rfl rfl ⟨by decide, by decide⟩ ?_
              rintro v17 A18 ⟨z21, rfl, rfl, raw_hz_n20⟩
              have hz_n20 : z21 = x14 + (x16 - dg x14 x15) * tnF x15 ∧ 0 ≤ z21 ∧ z21 ≤ 9999999 := raw_hz_n20
              clear raw_hz_n20
              show JM g D ad w0 A3 87 [(7, vi l9), (6, vi j), (4, vr 1 z5), (0, vr 0 0), (1, vi p), (2, vi i), (3, vr 1 ki), (5, vi z10)] [vi z21, vr 1 z5]
              refine m_blk 88 [(7, vi l9), (6, vi j), (4, vr 1 z5), (0, vr 0 0), (1, vi p), (2, vi i), (3, vr 1 ki), (5, vi z10)] [vr 1 ki, vi z21, vr 1 z5] C f_q_draw_87_1 rfl ?_
              refine m_getrN C e_q_draw_88 fg_Mo_285 rfl (by omega) rfl ?_
              refine m_blk 93 [(7, vi l9), (6, vi j), (4, vr 1 z5), (0, vr 0 0), (1, vi p), (2, vi i), (3, vr 1 ki), (5, vi z10)] [vi j, vr 4 ki, vi z21, vr 1 z5] C f_q_draw_91_1 rfl ?_
              obtain ⟨x22, hx22⟩ : ∃ x, A3 4 ki j.toNat = x := ⟨_, rfl⟩
              have rx22 : (-9223372036854775808) ≤ x22 ∧ x22 ≤ 9223372036854775807 := mrg hT3 hx22 rfl
              have ew9 : wj = x22 := hwj.symm.trans ((rmT3 4 (Int.toNat j) (by decide)).symm.trans hx22)
              refine m_lald C e_q_draw_93 rfl (by omega) (by decide) (by omega) (by show j < ((301 : Nat) : Int); omega) x22 hx22 ?_
              refine m_blk 96 [(7, vi l9), (6, vi j), (4, vr 1 z5), (0, vr 0 0), (1, vi p), (2, vi i), (3, vr 1 ki), (5, vi z10)] [vi z10, vl x22, vi z21, vr 1 z5] C f_q_draw_94_1 rfl ?_
              refine m_i2l C e_q_draw_96 (by omega) ?_
              refine m_ldiv C e_q_draw_97 (by omega) (by omega) (by omega) ?_
              refine m_blk 99 [(7, vi l9), (6, vi j), (4, vr 1 z5), (0, vr 0 0), (1, vi p), (2, vi i), (3, vr 1 ki), (5, vi z10)] [vr 0 0, vl (Int.tdiv x22 z10), vi z21, vr 1 z5] C f_q_draw_98_1 rfl ?_
              refine m_getr C e_q_draw_99 fg_Mo_45 rfl (by decide) rfl ?_
              refine m_blk 103 [(7, vi l9), (6, vi j), (4, vr 1 z5), (0, vr 0 0), (1, vi p), (2, vi i), (3, vr 1 ki), (5, vi z10)] [vi p, vr 22 0, vl (Int.tdiv x22 z10), vi z21, vr 1 z5] C f_q_draw_102_1 rfl ?_
              refine m_aald C p.toNat e_q_draw_103 rfl rfl rfl (by decide) (by decide) (by omega) (by show p < ((6 : Nat) : Int); omega) (mz _ _) ?_
              refine m_blk 106 [(7, vi l9), (6, vi j), (4, vr 1 z5), (0, vr 0 0), (1, vi p), (2, vi i), (3, vr 1 ki), (5, vi z10)] [vi l9, vr 42 p.toNat, vl (Int.tdiv x22 z10), vi z21, vr 1 z5] C f_q_draw_104_1 rfl ?_
              obtain ⟨x23, hx23⟩ : ∃ x, A3 42 p.toNat l9.toNat = x := ⟨_, rfl⟩
              have rx23 : 0 ≤ x23 ∧ x23 ≤ 16 := mrg hT3 hx23 rfl
              have hsw : SW (l9 + 1 - fl) = SW (l9 - fl) + x23 := by rw [hSW, hSW, show l9 + 1 - fl = l9 - fl + 1 by omega, ws_step (by omega) (by omega), show fl + (l9 - fl) = l9 by omega, ← far3 42 p.toNat (Int.toNat l9) (by decide), hx23]
              have sw0 : 0 ≤ SW (l9 - fl) ∧ SW (l9 - fl) + x23 ≤ z10 := by
                have h42n : ∀ v, 0 ≤ A 42 p.toNat v := fun v => (hT 42 p.toNat v).1
                have a1 := ws_le (A 42 p.toNat) h42n fl.toNat 0 (Int.toNat (l9 - fl)) (by omega)
                have a2 := ws_le (A 42 p.toNat) h42n fl.toNat (Int.toNat (l9 + 1 - fl)) (Int.toNat nu) (by omega)
                rw [← hSW, ← hSW, hsw, ← hal] at a2
                rw [← hSW (l9 - fl)] at a1
                exact ⟨a1, a2⟩
              have dr9 := dr_ok (lw := x23) pw9.2.1 hal1 hq sw0.1 (by omega) sw0.2
              have et9 : Int.tdiv x22 z10 * x23 = q * x23 := by rw [hq, ew9]
              refine m_iald C e_q_draw_106 rfl (by omega) (by decide) (by omega) (by show l9 < ((120 : Nat) : Int); omega) x23 hx23 ?_
              refine m_i2l C e_q_draw_107 (by omega) ?_
              refine m_blk 109 [(7, vi l9), (6, vi j), (4, vr 1 z5), (0, vr 0 0), (1, vi p), (2, vi i), (3, vr 1 ki), (5, vi z10)] [vl ((Int.tdiv x22 z10) * x23), vi z21, vr 1 z5] C f_q_draw_108_1 rfl ?_
              refine m_callV C Rm Y [vi z21, vl ((Int.tdiv x22 z10) * x23)] [] (q_come l D B H0 ad _ hT3 z5 (SJ j + q * SW (l9 - fl)) z21 ((Int.tdiv x22 z10) * x23) (by show z5 < 200; omega) hO3 (by show 0 ≤ z21 ∧ z21 ≤ 9999999; omega) (by show 0 ≤ ((Int.tdiv x22 z10) * x23) ∧ 0 ≤ (SJ j + q * SW (l9 - fl)) ∧ (SJ j + q * SW (l9 - fl)) + ((Int.tdiv x22 z10) * x23) ≤ 1125899906842624; omega)) cl_Mo_289 rfl (by omega) rfl rfl e_q_draw_109 rfl rfl rfl ⟨by decide, by decide⟩ ?_
              rintro v24 A25 ⟨rfl, hT_n27, hE_n27, raw_hO_n27⟩
              have hF_n27 := hE3.trans (hE_n27.sub (cm_dm (by omega)))
              have hO_n27 : oG A25 z5 ((SJ j + q * SW (l9 - fl)) + ((Int.tdiv x22 z10) * x23)) := raw_hO_n27
              clear raw_hO_n27
              show JM g D ad w0 A25 112 [(7, vi l9), (6, vi j), (4, vr 1 z5), (0, vr 0 0), (1, vi p), (2, vi i), (3, vr 1 ki), (5, vi z10)] []
              have ku_n27 : A25 0 0 33 = u + 1 := (hE_n27 0 0 33 rfl).trans hu3
              refine m_blk 36 [(7, vi (l9 + 1)), (6, vi j), (4, vr 1 z5), (0, vr 0 0), (1, vi p), (2, vi i), (3, vr 1 ki), (5, vi z10)] [] C f_q_draw_112_2 rfl ?_
              refine m_loc [(7, vi (l9 + 1)), (6, vi j), (4, vr 1 z5), (0, vr 0 0), (1, vi p), (2, vi i), (3, vr 1 ki), (5, vi z10)] ⟨rfl, rfl, rfl, rfl, rfl, rfl, rfl, rfl, trivial⟩ ?_
              exact ih36 A25 (l9 + 1) hT_n27 hF_n27 (hO_n27.le (by rw [hsw]; omega)) (by show fl ≤ (l9 + 1) ∧ (l9 + 1) ≤ fl + nu; omega) (by show A25 0 0 33 = u + 1; omega) (by show (200 - (l9 + 1)) < _; omega)
        refine m_loc [(7, vi fl), (6, vi j), (4, vr 1 z5), (0, vr 0 0), (1, vi p), (2, vi i), (3, vr 1 ki), (5, vi z10)] ⟨rfl, rfl, rfl, rfl, rfl, rfl, rfl, rfl, trivial⟩ ?_
        exact hd_36 (Int.toNat ((200 - fl)) + 1) A2 fl hT2 hE2 (hO2.le (by rw [show fl - fl = 0 by omega, hSW]; show SJ j ≤ SJ j + q * 0; omega)) (by show fl ≤ fl ∧ fl ≤ fl + nu; omega) (by show A2 0 0 33 = u + 1; omega) (by show (200 - fl) < _; omega)
  refine m_loc [(6, vi 0), (4, vr 1 z5), (0, vr 0 0), (1, vi p), (2, vi i), (3, vr 1 ki), (5, vi z10)] ⟨rfl, rfl, rfl, rfl, rfl, rfl, rfl, trivial⟩ ?_
  exact hd_17 (Int.toNat ((400 - 0)) + 1) A2 0 hT_n4 hF_n4 (by rw [hSJ]; exact oG.nil hm_n4) (by show 0 ≤ 0 ∧ 0 ≤ A 1 ki 2 ∧ A 1 ki 2 ≤ 301; omega) (by show A2 0 0 33 = u + 1; omega) (by show (400 - 0) < _; omega)

theorem f_q_times_0_2 : mblkB b_Mo_times [(0, .lload_n 2, vi 0), (1, .lconst 0, vl 0)] = true := by decide +kernel
theorem e_q_times_2 : decode b_Mo_times 2 = .ok (.lcmp, 1) := by decide +kernel
theorem e_q_times_3 : decode b_Mo_times 3 = .ok (.ifCond .ne 5, 3) := by decide +kernel
theorem f_q_times_8_1 : mblkB b_Mo_times [(8, .lload_n 2, vi 0)] = true := by decide +kernel
theorem e_q_times_9 : decode b_Mo_times 9 = .ok (.invokestatic 342, 3) := by decide +kernel
theorem f_q_times_12_10 : mblkB b_Mo_times [(12, .istore 4, vi 0), (14, .lload_n 0, vi 0), (15, .bipush 50, vi 50), (17, .iload 4, vi 0), (19, .isub, vi 0), (20, .lshr, vi 0), (21, .lload_n 2, vi 0), (22, .iload 4, vi 0), (24, .lshr, vi 0), (25, .lmul, vi 0)] = true := by decide +kernel
theorem e_q_times_26 : decode b_Mo_times 26 = .ok (.lreturn, 1) := by decide +kernel
theorem f_q_times_6_1 : mblkB b_Mo_times [(6, .lconst 0, vl 0)] = true := by decide +kernel
theorem e_q_times_7 : decode b_Mo_times 7 = .ok (.lreturn, 1) := by decide +kernel
set_option maxHeartbeats 40000000 in
set_option maxRecDepth 100000 in
theorem q_times (l : Launch) (D : va_G) (B : Nat) (H0 : Heap) (ad : mAd) (A : mA)  (a : Int) (b : Int) (hab : (0 ≤ a ∧ a ≤ 1125899906842624) ∧ 0 ≤ b ∧ b ≤ 1125899906842624)  : mMet l D B H0 ad y_Mo_times b_Mo_times 5 (some .long) 2 100 [vl a, vl b] A (fun v9 A9 => ∃ z : Int, v9 = some (vl z) ∧ A = A9 ∧ (0 ≤ z ∧ z * 1125899906842624 ≤ a * b)) := by
  refine m_met (by decide) rfl (fun g w0 C Rm Y E => ?_)
  show JM g D ad w0 A 0 [(0, vl a), (2, vl b)] []
  refine m_blk 2 [(0, vl a), (2, vl b)] [vl 0, vl b] C f_q_times_0_2 rfl ?_
  refine m_lcmp C e_q_times_2 (by omega) (by decide) (fun z1 hz1 => ?_)
  refine m_if_ne (tgt := 8) C e_q_times_3 (by decide) (by omega) (fun c2 => ?_) (fun c2 => ?_)
  · refine m_blk 9 [(0, vl a), (2, vl b)] [vl b] C f_q_times_8_1 rfl ?_
    refine m_callS C Rm Y [vl b] [] (q_ltz l D B H0 ad _ b) cl_Mo_342 e_q_times_9 rfl rfl rfl ⟨by decide, by decide⟩ ?_
    rintro v3 A4 ⟨z7, rfl, rfl, raw_hz_n6⟩
    have hz_n6 : -2147483648 ≤ z7 ∧ z7 ≤ 2147483647 := raw_hz_n6
    clear raw_hz_n6
    show JM g D ad w0 A 12 [(0, vl a), (2, vl b)] [vi z7]
    refine m_blk 26 [(4, vi z7), (0, vl a), (2, vl b)] [vl ((lShr a (50 - z7)) * (lShr b z7))] C f_q_times_12_10 rfl ?_
    exact m_lret C Rm E e_q_times_26 ⟨((lShr a (50 - z7)) * (lShr b z7)), rfl, rfl, (tm_ok hab.1 hab.2 rfl)⟩
  · refine m_blk 7 [(0, vl a), (2, vl b)] [vl 0] C f_q_times_6_1 rfl ?_
    exact m_lret C Rm E e_q_times_7 ⟨0, rfl, rfl, ⟨Int.le_refl _, by rw [Int.zero_mul]; exact Int.mul_nonneg hab.1.1 hab.2.1⟩⟩
