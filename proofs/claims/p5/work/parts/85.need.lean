/-! the reference: formulas' worths, names needed (own work, by program) -/
theorem nH.at {P : Nat} {A : mA} {M : Int} (h : nH P A M) {e : Int} (h0 : 0 ≤ e) (h1 : e < M) : (-1 ≤ A 45 P e.toNat ∧ A 45 P e.toNat < e) ∧ (-1 ≤ A 46 P e.toNat ∧ A 46 P e.toNat < e) := by
  have k := h e.toNat (by omega)
  exact ⟨by omega, by omega⟩
theorem nH.one {P : Nat} {A : mA} {M : Int} (h : nH P A M) {e : Int} (h0 : 0 ≤ e) (h1 : e < M) (k0 : A 43 P e.toNat ≠ 0) (k1 : A 43 P e.toNat ≠ 1) : 0 ≤ A 45 P e.toNat := (h e.toNat (by omega)).2.2.1 k0 k1
theorem nH.two {P : Nat} {A : mA} {M : Int} (h : nH P A M) {e : Int} (h0 : 0 ≤ e) (h1 : e < M) (k0 : A 43 P e.toNat ≠ 0) (k1 : A 43 P e.toNat ≠ 1) (k2 : A 43 P e.toNat ≠ 2) : 0 ≤ A 46 P e.toNat := (h e.toNat (by omega)).2.2.2 k0 k1 k2
/-- the programs ahead of q are in order -/
def aOk (A : mA) (q : Int) : Prop := ∀ r : Nat, (r : Int) < q → Pok A r
theorem aOk.at {A : mA} {q p : Int} (h : aOk A q) (h0 : 0 ≤ p) (h1 : p < q) : Pok A p.toNat := h p.toNat (by omega)
theorem aOk.le {A : mA} {q r : Int} (h : aOk A q) (hr : r ≤ q) : aOk A r := fun x hx => h x (by omega)
def S_worth (n : Nat) : Prop := ∀ (l : Launch) (D : va_G) (B : Nat) (H0 : Heap) (ad : mAd) (A : mA) (hT : mTy A) (M : Int) (p : Int) (e : Int) (s : Int) (hN : nH p.toNat A M) (hM : 0 ≤ p ∧ p ≤ 5 ∧ M ≤ 120) (he : 0 ≤ e ∧ e < M ∧ e < (n : Int)) (hs : 0 ≤ s ∧ s ≤ 9999999) , mMet l D B H0 ad y_Mo_worth b_Mo_worth 7 (some .int) (3 + n) (80 + 30 * n) [vr 0 0, vi p, vi e, vi s] A (fun v9 A9 => ∃ z : Int, v9 = some (vi z) ∧ A = A9 ∧ (-2147483648 ≤ z ∧ z ≤ 2147483647))
def S_namesIn (n : Nat) : Prop := ∀ (l : Launch) (D : va_G) (B : Nat) (H0 : Heap) (ad : mAd) (A : mA) (hT : mTy A) (M : Int) (p : Int) (e : Int) (hN : nH p.toNat A M) (hM : 0 ≤ p ∧ p ≤ 5 ∧ M ≤ 120) (he : -1 ≤ e ∧ e < M ∧ e < (n : Int)) , mMet l D B H0 ad y_Mo_namesIn b_Mo_namesIn 3 (some .int) (3 + n) (80 + 30 * n) [vr 0 0, vi p, vi e] A (fun v9 A9 => ∃ z : Int, v9 = some (vi z) ∧ A = A9 ∧ (-2147483648 ≤ z ∧ z ≤ 2147483647))
def S_sees (n : Nat) : Prop := ∀ (l : Launch) (D : va_G) (B : Nat) (H0 : Heap) (ad : mAd) (A : mA) (hT : mTy A)  (p : Int) (ha : aOk A (p + 1)) (hp : 0 ≤ p ∧ p ≤ 5 ∧ p < (n : Int)) , mMet l D B H0 ad y_Mo_sees b_Mo_sees 3 (some .boolean) (3 + n) (80 + 30 * n) [vr 0 0, vi p] A (fun v9 A9 => ∃ z : Int, v9 = some (vi z) ∧ A = A9 ∧ (z = 0 ∨ z = 1))
def S_neededAhead (n : Nat) : Prop := ∀ (l : Launch) (D : va_G) (B : Nat) (H0 : Heap) (ad : mAd) (A : mA) (hT : mTy A) (N : Int) (M : Int) (Ln : Int) (dep : Nat → Int) (p : Int) (i : Int) (w : Int) (hp : 0 ≤ p ∧ p ≤ 5) (hK : pK A p.toNat N M Ln dep) (ha : aOk A p) (hi : 0 ≤ i ∧ i < N ∧ 16 - i ≤ (n : Int)) (hw : -2147483648 ≤ w ∧ w ≤ 2147483647) , mMet l D B H0 ad y_Mo_neededAhead b_Mo_neededAhead 8 (some .int) (131 + 2 * n) (3840 + 80 * n) [vr 0 0, vi p, vi i, vi w] A (fun v9 A9 => ∃ z : Int, v9 = some (vi z) ∧ A = A9 ∧ (-2147483648 ≤ z ∧ z ≤ 2147483647))
def S_neededFrom (n : Nat) : Prop := ∀ (l : Launch) (D : va_G) (B : Nat) (H0 : Heap) (ad : mAd) (A : mA) (hT : mTy A) (N : Int) (M : Int) (Ln : Int) (dep : Nat → Int) (p : Int) (i : Int) (t : Int) (w : Int) (hp : 0 ≤ p ∧ p ≤ 5) (hK : pK A p.toNat N M Ln dep) (ha : aOk A p) (hi : 0 ≤ i ∧ i ≤ 16 ∧ 0 ≤ t ∧ t ≤ N ∧ 17 - i ≤ (n : Int)) (hw : -2147483648 ≤ w ∧ w ≤ 2147483647) , mMet l D B H0 ad y_Mo_neededFrom b_Mo_neededFrom 5 (some .int) (130 + 2 * n) (3800 + 80 * n) [vr 0 0, vi p, vi i, vi t, vi w] A (fun v9 A9 => ∃ z : Int, v9 = some (vi z) ∧ A = A9 ∧ (-2147483648 ≤ z ∧ z ≤ 2147483647))
theorem f_q_worth_0_1 : mblkB b_Mo_worth [(0, .aload_n 0, vi 0)] = true := by decide +kernel
theorem e_q_worth_1 : decode b_Mo_worth 1 = .ok (.getfield 48, 3) := by decide +kernel
theorem f_q_worth_4_1 : mblkB b_Mo_worth [(4, .iload_n 1, vi 0)] = true := by decide +kernel
theorem e_q_worth_5 : decode b_Mo_worth 5 = .ok (.aaload, 1) := by decide +kernel
theorem f_q_worth_6_1 : mblkB b_Mo_worth [(6, .iload_n 2, vi 0)] = true := by decide +kernel
theorem e_q_worth_7 : decode b_Mo_worth 7 = .ok (.iaload, 1) := by decide +kernel
theorem f_q_worth_8_2 : mblkB b_Mo_worth [(8, .istore 4, vi 0), (10, .iload 4, vi 0)] = true := by decide +kernel
theorem e_q_worth_12 : decode b_Mo_worth 12 = .ok (.ifCond .ne 12, 3) := by decide +kernel
theorem f_q_worth_24_2 : mblkB b_Mo_worth [(24, .iload 4, vi 0), (26, .iconst 1, vi 1)] = true := by decide +kernel
theorem e_q_worth_27 : decode b_Mo_worth 27 = .ok (.if_icmp .ne 16, 3) := by decide +kernel
theorem f_q_worth_43_3 : mblkB b_Mo_worth [(43, .aload_n 0, vi 0), (44, .iload_n 1, vi 0), (45, .aload_n 0, vi 0)] = true := by decide +kernel
theorem e_q_worth_46 : decode b_Mo_worth 46 = .ok (.getfield 54, 3) := by decide +kernel
theorem f_q_worth_49_1 : mblkB b_Mo_worth [(49, .iload_n 1, vi 0)] = true := by decide +kernel
theorem e_q_worth_50 : decode b_Mo_worth 50 = .ok (.aaload, 1) := by decide +kernel
theorem f_q_worth_51_1 : mblkB b_Mo_worth [(51, .iload_n 2, vi 0)] = true := by decide +kernel
theorem e_q_worth_52 : decode b_Mo_worth 52 = .ok (.iaload, 1) := by decide +kernel
theorem f_q_worth_53_1 : mblkB b_Mo_worth [(53, .iload_n 3, vi 0)] = true := by decide +kernel
theorem e_q_worth_54 : decode b_Mo_worth 54 = .ok (.invokevirtual 263, 3) := by decide +kernel
theorem f_q_worth_57_3 : mblkB b_Mo_worth [(57, .istore 5, vi 0), (59, .iload 4, vi 0), (61, .iconst 2, vi 2)] = true := by decide +kernel
theorem e_q_worth_62 : decode b_Mo_worth 62 = .ok (.if_icmp .ne 7, 3) := by decide +kernel
theorem f_q_worth_69_3 : mblkB b_Mo_worth [(69, .aload_n 0, vi 0), (70, .iload_n 1, vi 0), (71, .aload_n 0, vi 0)] = true := by decide +kernel
theorem e_q_worth_72 : decode b_Mo_worth 72 = .ok (.getfield 57, 3) := by decide +kernel
theorem f_q_worth_75_1 : mblkB b_Mo_worth [(75, .iload_n 1, vi 0)] = true := by decide +kernel
theorem e_q_worth_76 : decode b_Mo_worth 76 = .ok (.aaload, 1) := by decide +kernel
theorem f_q_worth_77_1 : mblkB b_Mo_worth [(77, .iload_n 2, vi 0)] = true := by decide +kernel
theorem e_q_worth_78 : decode b_Mo_worth 78 = .ok (.iaload, 1) := by decide +kernel
theorem f_q_worth_79_1 : mblkB b_Mo_worth [(79, .iload_n 3, vi 0)] = true := by decide +kernel
theorem e_q_worth_80 : decode b_Mo_worth 80 = .ok (.invokevirtual 263, 3) := by decide +kernel
theorem f_q_worth_83_3 : mblkB b_Mo_worth [(83, .istore 6, vi 0), (85, .iload 4, vi 0), (87, .bipush 43, vi 43)] = true := by decide +kernel
theorem e_q_worth_89 : decode b_Mo_worth 89 = .ok (.if_icmp .ne 9, 3) := by decide +kernel
theorem f_q_worth_98_2 : mblkB b_Mo_worth [(98, .iload 4, vi 0), (100, .bipush 45, vi 45)] = true := by decide +kernel
theorem e_q_worth_102 : decode b_Mo_worth 102 = .ok (.if_icmp .ne 9, 3) := by decide +kernel
theorem f_q_worth_111_2 : mblkB b_Mo_worth [(111, .iload 4, vi 0), (113, .bipush 42, vi 42)] = true := by decide +kernel
theorem e_q_worth_115 : decode b_Mo_worth 115 = .ok (.if_icmp .ne 9, 3) := by decide +kernel
theorem f_q_worth_124_2 : mblkB b_Mo_worth [(124, .iload 4, vi 0), (126, .bipush 37, vi 37)] = true := by decide +kernel
theorem e_q_worth_128 : decode b_Mo_worth 128 = .ok (.if_icmp .ne 18, 3) := by decide +kernel
theorem f_q_worth_146_2 : mblkB b_Mo_worth [(146, .iload 4, vi 0), (148, .bipush 60, vi 60)] = true := by decide +kernel
theorem e_q_worth_150 : decode b_Mo_worth 150 = .ok (.if_icmp .ne 18, 3) := by decide +kernel
theorem f_q_worth_168_2 : mblkB b_Mo_worth [(168, .iload 5, vi 0), (170, .iload 6, vi 0)] = true := by decide +kernel
theorem e_q_worth_172 : decode b_Mo_worth 172 = .ok (.if_icmp .ne 7, 3) := by decide +kernel
theorem f_q_worth_179_1 : mblkB b_Mo_worth [(179, .iconst 0, vi 0)] = true := by decide +kernel
theorem e_q_worth_180 : decode b_Mo_worth 180 = .ok (.ireturn, 1) := by decide +kernel
theorem f_q_worth_175_2 : mblkB b_Mo_worth [(175, .iconst 1, vi 1), (176, .goto 4, vi 180)] = true := by decide +kernel
theorem f_q_worth_153_2 : mblkB b_Mo_worth [(153, .iload 5, vi 0), (155, .iload 6, vi 0)] = true := by decide +kernel
theorem e_q_worth_157 : decode b_Mo_worth 157 = .ok (.if_icmp .ge 7, 3) := by decide +kernel
theorem f_q_worth_164_2 : mblkB b_Mo_worth [(164, .iconst 0, vi 0), (165, .goto 15, vi 180)] = true := by decide +kernel
theorem f_q_worth_160_2 : mblkB b_Mo_worth [(160, .iconst 1, vi 1), (161, .goto 19, vi 180)] = true := by decide +kernel
theorem f_q_worth_131_1 : mblkB b_Mo_worth [(131, .iload 6, vi 0)] = true := by decide +kernel
theorem e_q_worth_133 : decode b_Mo_worth 133 = .ok (.ifCond .ne 7, 3) := by decide +kernel
theorem f_q_worth_140_2 : mblkB b_Mo_worth [(140, .iload 5, vi 0), (142, .iload 6, vi 0)] = true := by decide +kernel
theorem e_q_worth_144 : decode b_Mo_worth 144 = .ok (.irem, 1) := by decide +kernel
theorem e_q_worth_145 : decode b_Mo_worth 145 = .ok (.ireturn, 1) := by decide +kernel
theorem f_q_worth_136_2 : mblkB b_Mo_worth [(136, .iconst 0, vi 0), (137, .goto 8, vi 145)] = true := by decide +kernel
theorem f_q_worth_118_3 : mblkB b_Mo_worth [(118, .iload 5, vi 0), (120, .iload 6, vi 0), (122, .imul, vi 0)] = true := by decide +kernel
theorem e_q_worth_123 : decode b_Mo_worth 123 = .ok (.ireturn, 1) := by decide +kernel
theorem f_q_worth_105_3 : mblkB b_Mo_worth [(105, .iload 5, vi 0), (107, .iload 6, vi 0), (109, .isub, vi 0)] = true := by decide +kernel
theorem e_q_worth_110 : decode b_Mo_worth 110 = .ok (.ireturn, 1) := by decide +kernel
theorem f_q_worth_92_3 : mblkB b_Mo_worth [(92, .iload 5, vi 0), (94, .iload 6, vi 0), (96, .iadd, vi 0)] = true := by decide +kernel
theorem e_q_worth_97 : decode b_Mo_worth 97 = .ok (.ireturn, 1) := by decide +kernel
theorem f_q_worth_65_2 : mblkB b_Mo_worth [(65, .iload 5, vi 0), (67, .ineg, vi 0)] = true := by decide +kernel
theorem e_q_worth_68 : decode b_Mo_worth 68 = .ok (.ireturn, 1) := by decide +kernel
theorem f_q_worth_30_2 : mblkB b_Mo_worth [(30, .iload_n 3, vi 0), (31, .aload_n 0, vi 0)] = true := by decide +kernel
theorem e_q_worth_32 : decode b_Mo_worth 32 = .ok (.getfield 51, 3) := by decide +kernel
theorem f_q_worth_35_1 : mblkB b_Mo_worth [(35, .iload_n 1, vi 0)] = true := by decide +kernel
theorem e_q_worth_36 : decode b_Mo_worth 36 = .ok (.aaload, 1) := by decide +kernel
theorem f_q_worth_37_1 : mblkB b_Mo_worth [(37, .iload_n 2, vi 0)] = true := by decide +kernel
theorem e_q_worth_38 : decode b_Mo_worth 38 = .ok (.iaload, 1) := by decide +kernel
theorem e_q_worth_39 : decode b_Mo_worth 39 = .ok (.invokestatic 260, 3) := by decide +kernel
theorem e_q_worth_42 : decode b_Mo_worth 42 = .ok (.ireturn, 1) := by decide +kernel
theorem f_q_worth_15_1 : mblkB b_Mo_worth [(15, .aload_n 0, vi 0)] = true := by decide +kernel
theorem e_q_worth_16 : decode b_Mo_worth 16 = .ok (.getfield 51, 3) := by decide +kernel
theorem f_q_worth_19_1 : mblkB b_Mo_worth [(19, .iload_n 1, vi 0)] = true := by decide +kernel
theorem e_q_worth_20 : decode b_Mo_worth 20 = .ok (.aaload, 1) := by decide +kernel
theorem f_q_worth_21_1 : mblkB b_Mo_worth [(21, .iload_n 2, vi 0)] = true := by decide +kernel
theorem e_q_worth_22 : decode b_Mo_worth 22 = .ok (.iaload, 1) := by decide +kernel
theorem e_q_worth_23 : decode b_Mo_worth 23 = .ok (.ireturn, 1) := by decide +kernel
set_option maxHeartbeats 40000000 in
set_option maxRecDepth 100000 in
theorem q_worth (n : Nat) (hrec : ∀ n1 : Nat, n = n1 + 1 → S_worth n1) : S_worth n := by
  intro l D B H0 ad A hT M p e s hN hM he hs
  refine m_met (by decide) rfl (fun g w0 C Rm Y E => ?_)
  show JM g D ad w0 A 0 [(0, vr 0 0), (1, vi p), (2, vi e), (3, vi s)] []
  refine m_blk 1 [(0, vr 0 0), (1, vi p), (2, vi e), (3, vi s)] [vr 0 0] C f_q_worth_0_1 rfl ?_
  refine m_getr C e_q_worth_1 fg_Mo_48 rfl (by decide) rfl ?_
  refine m_blk 5 [(0, vr 0 0), (1, vi p), (2, vi e), (3, vi s)] [vi p, vr 23 0] C f_q_worth_4_1 rfl ?_
  refine m_aald C p.toNat e_q_worth_5 rfl rfl rfl (by decide) (by decide) (by omega) (by show p < ((6 : Nat) : Int); omega) (mz _ _) ?_
  refine m_blk 7 [(0, vr 0 0), (1, vi p), (2, vi e), (3, vi s)] [vi e, vr 43 p.toNat] C f_q_worth_6_1 rfl ?_
  obtain ⟨x1, hx1⟩ : ∃ x, A 43 p.toNat e.toNat = x := ⟨_, rfl⟩
  have rx1 : (-1) ≤ x1 ∧ x1 ≤ 255 := mrg hT hx1 rfl
  refine m_iald C e_q_worth_7 rfl (by omega) (by decide) (by omega) (by show e < ((120 : Nat) : Int); omega) x1 hx1 ?_
  refine m_blk 12 [(4, vi x1), (0, vr 0 0), (1, vi p), (2, vi e), (3, vi s)] [vi x1] C f_q_worth_8_2 rfl ?_
  refine m_if_ne (tgt := 24) C e_q_worth_12 (by decide) (by omega) (fun c2 => ?_) (fun c2 => ?_)
  · refine m_blk 27 [(4, vi x1), (0, vr 0 0), (1, vi p), (2, vi e), (3, vi s)] [vi 1, vi x1] C f_q_worth_24_2 rfl ?_
    refine m_icmp_ne (tgt := 43) C e_q_worth_27 (by decide) (by omega) (by decide) (fun c3 => ?_) (fun c3 => ?_)
    · obtain ⟨n1, hn1⟩ : ∃ n1, n = n1 + 1 := ⟨n - 1, by omega⟩
      have h1 := hN.at (e := e) (by omega) (by omega)
      have h2 := hN.one (e := e) (by omega) (by omega) (by omega) (by omega)
      refine m_blk 46 [(4, vi x1), (0, vr 0 0), (1, vi p), (2, vi e), (3, vi s)] [vr 0 0, vi p, vr 0 0] C f_q_worth_43_3 rfl ?_
      refine m_getr C e_q_worth_46 fg_Mo_54 rfl (by decide) rfl ?_
      refine m_blk 50 [(4, vi x1), (0, vr 0 0), (1, vi p), (2, vi e), (3, vi s)] [vi p, vr 25 0, vi p, vr 0 0] C f_q_worth_49_1 rfl ?_
      refine m_aald C p.toNat e_q_worth_50 rfl rfl rfl (by decide) (by decide) (by omega) (by show p < ((6 : Nat) : Int); omega) (mz _ _) ?_
      refine m_blk 52 [(4, vi x1), (0, vr 0 0), (1, vi p), (2, vi e), (3, vi s)] [vi e, vr 45 p.toNat, vi p, vr 0 0] C f_q_worth_51_1 rfl ?_
      obtain ⟨x4, hx4⟩ : ∃ x, A 45 p.toNat e.toNat = x := ⟨_, rfl⟩
      have rx4 : (-1) ≤ x4 ∧ x4 ≤ 119 := mrg hT hx4 rfl
      refine m_iald C e_q_worth_52 rfl (by omega) (by decide) (by omega) (by show e < ((120 : Nat) : Int); omega) x4 hx4 ?_
      refine m_blk 54 [(4, vi x1), (0, vr 0 0), (1, vi p), (2, vi e), (3, vi s)] [vi s, vi x4, vi p, vr 0 0] C f_q_worth_53_1 rfl ?_
      refine m_callV C Rm Y [vi p, vi x4, vi s] [] ((hrec n1 hn1) l D B H0 ad _ hT M p x4 s hN (by show 0 ≤ p ∧ p ≤ 5 ∧ M ≤ 120; omega) (by show 0 ≤ x4 ∧ x4 < M ∧ x4 < (n1 : Int); omega) (by show 0 ≤ s ∧ s ≤ 9999999; omega)) cl_Mo_263 rfl (by decide) rfl rfl e_q_worth_54 rfl rfl rfl ⟨by show _ ≤ (3 + n : Nat); omega, by show _ ≤ (80 + 30 * n : Nat); omega⟩ ?_
      rintro v5 A6 ⟨z9, rfl, rfl, raw_hz_n8⟩
      have hz_n8 : -2147483648 ≤ z9 ∧ z9 ≤ 2147483647 := raw_hz_n8
      clear raw_hz_n8
      show JM g D ad w0 A 57 [(4, vi x1), (0, vr 0 0), (1, vi p), (2, vi e), (3, vi s)] [vi z9]
      refine m_blk 62 [(5, vi z9), (4, vi x1), (0, vr 0 0), (1, vi p), (2, vi e), (3, vi s)] [vi 2, vi x1] C f_q_worth_57_3 rfl ?_
      refine m_icmp_ne (tgt := 69) C e_q_worth_62 (by decide) (by omega) (by decide) (fun c10 => ?_) (fun c10 => ?_)
      · have h3 := hN.two (e := e) (by omega) (by omega) (by omega) (by omega) (by omega)
        refine m_blk 72 [(5, vi z9), (4, vi x1), (0, vr 0 0), (1, vi p), (2, vi e), (3, vi s)] [vr 0 0, vi p, vr 0 0] C f_q_worth_69_3 rfl ?_
        refine m_getr C e_q_worth_72 fg_Mo_57 rfl (by decide) rfl ?_
        refine m_blk 76 [(5, vi z9), (4, vi x1), (0, vr 0 0), (1, vi p), (2, vi e), (3, vi s)] [vi p, vr 26 0, vi p, vr 0 0] C f_q_worth_75_1 rfl ?_
        refine m_aald C p.toNat e_q_worth_76 rfl rfl rfl (by decide) (by decide) (by omega) (by show p < ((6 : Nat) : Int); omega) (mz _ _) ?_
        refine m_blk 78 [(5, vi z9), (4, vi x1), (0, vr 0 0), (1, vi p), (2, vi e), (3, vi s)] [vi e, vr 46 p.toNat, vi p, vr 0 0] C f_q_worth_77_1 rfl ?_
        obtain ⟨x11, hx11⟩ : ∃ x, A 46 p.toNat e.toNat = x := ⟨_, rfl⟩
        have rx11 : (-1) ≤ x11 ∧ x11 ≤ 119 := mrg hT hx11 rfl
        refine m_iald C e_q_worth_78 rfl (by omega) (by decide) (by omega) (by show e < ((120 : Nat) : Int); omega) x11 hx11 ?_
        refine m_blk 80 [(5, vi z9), (4, vi x1), (0, vr 0 0), (1, vi p), (2, vi e), (3, vi s)] [vi s, vi x11, vi p, vr 0 0] C f_q_worth_79_1 rfl ?_
        refine m_callV C Rm Y [vi p, vi x11, vi s] [] ((hrec n1 hn1) l D B H0 ad _ hT M p x11 s hN (by show 0 ≤ p ∧ p ≤ 5 ∧ M ≤ 120; omega) (by show 0 ≤ x11 ∧ x11 < M ∧ x11 < (n1 : Int); omega) (by show 0 ≤ s ∧ s ≤ 9999999; omega)) cl_Mo_263 rfl (by decide) rfl rfl e_q_worth_80 rfl rfl rfl ⟨by show _ ≤ (3 + n : Nat); omega, by show _ ≤ (80 + 30 * n : Nat); omega⟩ ?_
        rintro v12 A13 ⟨z16, rfl, rfl, raw_hz_n15⟩
        have hz_n15 : -2147483648 ≤ z16 ∧ z16 ≤ 2147483647 := raw_hz_n15
        clear raw_hz_n15
        show JM g D ad w0 A 83 [(5, vi z9), (4, vi x1), (0, vr 0 0), (1, vi p), (2, vi e), (3, vi s)] [vi z16]
        refine m_blk 89 [(6, vi z16), (5, vi z9), (4, vi x1), (0, vr 0 0), (1, vi p), (2, vi e), (3, vi s)] [vi 43, vi x1] C f_q_worth_83_3 rfl ?_
        refine m_icmp_ne (tgt := 98) C e_q_worth_89 (by decide) (by omega) (by decide) (fun c17 => ?_) (fun c17 => ?_)
        · refine m_blk 102 [(6, vi z16), (5, vi z9), (4, vi x1), (0, vr 0 0), (1, vi p), (2, vi e), (3, vi s)] [vi 45, vi x1] C f_q_worth_98_2 rfl ?_
          refine m_icmp_ne (tgt := 111) C e_q_worth_102 (by decide) (by omega) (by decide) (fun c18 => ?_) (fun c18 => ?_)
          · refine m_blk 115 [(6, vi z16), (5, vi z9), (4, vi x1), (0, vr 0 0), (1, vi p), (2, vi e), (3, vi s)] [vi 42, vi x1] C f_q_worth_111_2 rfl ?_
            refine m_icmp_ne (tgt := 124) C e_q_worth_115 (by decide) (by omega) (by decide) (fun c19 => ?_) (fun c19 => ?_)
            · refine m_blk 128 [(6, vi z16), (5, vi z9), (4, vi x1), (0, vr 0 0), (1, vi p), (2, vi e), (3, vi s)] [vi 37, vi x1] C f_q_worth_124_2 rfl ?_
              refine m_icmp_ne (tgt := 146) C e_q_worth_128 (by decide) (by omega) (by decide) (fun c20 => ?_) (fun c20 => ?_)
              · refine m_blk 150 [(6, vi z16), (5, vi z9), (4, vi x1), (0, vr 0 0), (1, vi p), (2, vi e), (3, vi s)] [vi 60, vi x1] C f_q_worth_146_2 rfl ?_
                refine m_icmp_ne (tgt := 168) C e_q_worth_150 (by decide) (by omega) (by decide) (fun c21 => ?_) (fun c21 => ?_)
                · refine m_blk 172 [(6, vi z16), (5, vi z9), (4, vi x1), (0, vr 0 0), (1, vi p), (2, vi e), (3, vi s)] [vi z16, vi z9] C f_q_worth_168_2 rfl ?_
                  refine m_icmp_ne (tgt := 179) C e_q_worth_172 (by decide) (by omega) (by omega) (fun c22 => ?_) (fun c22 => ?_)
                  · refine m_blk 180 [(6, vi z16), (5, vi z9), (4, vi x1), (0, vr 0 0), (1, vi p), (2, vi e), (3, vi s)] [vi 0] C f_q_worth_179_1 rfl ?_
                    exact m_iret C Rm E e_q_worth_180 ⟨0, rfl, rfl, (by show -2147483648 ≤ 0 ∧ 0 ≤ 2147483647; omega)⟩
                  · refine m_blk 180 [(6, vi z16), (5, vi z9), (4, vi x1), (0, vr 0 0), (1, vi p), (2, vi e), (3, vi s)] [vi 1] C f_q_worth_175_2 rfl ?_
                    exact m_iret C Rm E e_q_worth_180 ⟨1, rfl, rfl, (by show -2147483648 ≤ 1 ∧ 1 ≤ 2147483647; omega)⟩
                · refine m_blk 157 [(6, vi z16), (5, vi z9), (4, vi x1), (0, vr 0 0), (1, vi p), (2, vi e), (3, vi s)] [vi z16, vi z9] C f_q_worth_153_2 rfl ?_
                  refine m_icmp_ge (tgt := 164) C e_q_worth_157 (by decide) (by omega) (by omega) (fun c23 => ?_) (fun c23 => ?_)
                  · refine m_blk 180 [(6, vi z16), (5, vi z9), (4, vi x1), (0, vr 0 0), (1, vi p), (2, vi e), (3, vi s)] [vi 0] C f_q_worth_164_2 rfl ?_
                    exact m_iret C Rm E e_q_worth_180 ⟨0, rfl, rfl, (by show -2147483648 ≤ 0 ∧ 0 ≤ 2147483647; omega)⟩
                  · refine m_blk 180 [(6, vi z16), (5, vi z9), (4, vi x1), (0, vr 0 0), (1, vi p), (2, vi e), (3, vi s)] [vi 1] C f_q_worth_160_2 rfl ?_
                    exact m_iret C Rm E e_q_worth_180 ⟨1, rfl, rfl, (by show -2147483648 ≤ 1 ∧ 1 ≤ 2147483647; omega)⟩
              · refine m_blk 133 [(6, vi z16), (5, vi z9), (4, vi x1), (0, vr 0 0), (1, vi p), (2, vi e), (3, vi s)] [vi z16] C f_q_worth_131_1 rfl ?_
                refine m_if_ne (tgt := 140) C e_q_worth_133 (by decide) (by omega) (fun c24 => ?_) (fun c24 => ?_)
                · refine m_blk 144 [(6, vi z16), (5, vi z9), (4, vi x1), (0, vr 0 0), (1, vi p), (2, vi e), (3, vi s)] [vi z16, vi z9] C f_q_worth_140_2 rfl ?_
                  refine m_irem C e_q_worth_144 (by omega) (by omega) (by omega) ?_
                  refine m_nrm (fun y25 hy25 => ?_)
                  exact m_iret C Rm E e_q_worth_145 ⟨y25, rfl, rfl, (by show -2147483648 ≤ y25 ∧ y25 ≤ 2147483647; omega)⟩
                · refine m_blk 145 [(6, vi z16), (5, vi z9), (4, vi x1), (0, vr 0 0), (1, vi p), (2, vi e), (3, vi s)] [vi 0] C f_q_worth_136_2 rfl ?_
                  exact m_iret C Rm E e_q_worth_145 ⟨0, rfl, rfl, (by show -2147483648 ≤ 0 ∧ 0 ≤ 2147483647; omega)⟩
            · refine m_blk 123 [(6, vi z16), (5, vi z9), (4, vi x1), (0, vr 0 0), (1, vi p), (2, vi e), (3, vi s)] [vi (z9 * z16)] C f_q_worth_118_3 rfl ?_
              refine m_nrm (fun y26 hy26 => ?_)
              exact m_iret C Rm E e_q_worth_123 ⟨y26, rfl, rfl, (by show -2147483648 ≤ y26 ∧ y26 ≤ 2147483647; omega)⟩
          · refine m_blk 110 [(6, vi z16), (5, vi z9), (4, vi x1), (0, vr 0 0), (1, vi p), (2, vi e), (3, vi s)] [vi (z9 - z16)] C f_q_worth_105_3 rfl ?_
            refine m_nrm (fun y27 hy27 => ?_)
            exact m_iret C Rm E e_q_worth_110 ⟨y27, rfl, rfl, (by show -2147483648 ≤ y27 ∧ y27 ≤ 2147483647; omega)⟩
        · refine m_blk 97 [(6, vi z16), (5, vi z9), (4, vi x1), (0, vr 0 0), (1, vi p), (2, vi e), (3, vi s)] [vi (z9 + z16)] C f_q_worth_92_3 rfl ?_
          refine m_nrm (fun y28 hy28 => ?_)
          exact m_iret C Rm E e_q_worth_97 ⟨y28, rfl, rfl, (by show -2147483648 ≤ y28 ∧ y28 ≤ 2147483647; omega)⟩
      · refine m_blk 68 [(5, vi z9), (4, vi x1), (0, vr 0 0), (1, vi p), (2, vi e), (3, vi s)] [vi (-z9)] C f_q_worth_65_2 rfl ?_
        refine m_nrm (fun y29 hy29 => ?_)
        exact m_iret C Rm E e_q_worth_68 ⟨y29, rfl, rfl, (by show -2147483648 ≤ y29 ∧ y29 ≤ 2147483647; omega)⟩
    · refine m_blk 32 [(4, vi x1), (0, vr 0 0), (1, vi p), (2, vi e), (3, vi s)] [vr 0 0, vi s] C f_q_worth_30_2 rfl ?_
      refine m_getr C e_q_worth_32 fg_Mo_51 rfl (by decide) rfl ?_
      refine m_blk 36 [(4, vi x1), (0, vr 0 0), (1, vi p), (2, vi e), (3, vi s)] [vi p, vr 24 0, vi s] C f_q_worth_35_1 rfl ?_
      refine m_aald C p.toNat e_q_worth_36 rfl rfl rfl (by decide) (by decide) (by omega) (by show p < ((6 : Nat) : Int); omega) (mz _ _) ?_
      refine m_blk 38 [(4, vi x1), (0, vr 0 0), (1, vi p), (2, vi e), (3, vi s)] [vi e, vr 44 p.toNat, vi s] C f_q_worth_37_1 rfl ?_
      obtain ⟨x30, hx30⟩ : ∃ x, A 44 p.toNat e.toNat = x := ⟨_, rfl⟩
      have rx30 : (-1) ≤ x30 ∧ x30 ≤ 255 := mrg hT hx30 rfl
      refine m_iald C e_q_worth_38 rfl (by omega) (by decide) (by omega) (by show e < ((120 : Nat) : Int); omega) x30 hx30 ?_
      refine m_callS C Rm Y [vi s, vi x30] [] (q_valueOf l D B H0 ad _ s x30 (by show 0 ≤ s ∧ s ≤ 2147483647; omega) (by show -1 ≤ x30 ∧ x30 ≤ 2147483647; omega)) cl_Mo_260 e_q_worth_39 rfl rfl rfl ⟨by show _ ≤ (3 + n : Nat); omega, by show _ ≤ (80 + 30 * n : Nat); omega⟩ ?_
      rintro v31 A32 ⟨z35, rfl, rfl, raw_hz_n34⟩
      have hz_n34 : z35 = dg s x30 ∧ 0 ≤ z35 ∧ z35 ≤ 9 := raw_hz_n34
      clear raw_hz_n34
      show JM g D ad w0 A 42 [(4, vi x1), (0, vr 0 0), (1, vi p), (2, vi e), (3, vi s)] [vi z35]
      exact m_iret C Rm E e_q_worth_42 ⟨z35, rfl, rfl, (by show -2147483648 ≤ z35 ∧ z35 ≤ 2147483647; omega)⟩
  · refine m_blk 16 [(4, vi x1), (0, vr 0 0), (1, vi p), (2, vi e), (3, vi s)] [vr 0 0] C f_q_worth_15_1 rfl ?_
    refine m_getr C e_q_worth_16 fg_Mo_51 rfl (by decide) rfl ?_
    refine m_blk 20 [(4, vi x1), (0, vr 0 0), (1, vi p), (2, vi e), (3, vi s)] [vi p, vr 24 0] C f_q_worth_19_1 rfl ?_
    refine m_aald C p.toNat e_q_worth_20 rfl rfl rfl (by decide) (by decide) (by omega) (by show p < ((6 : Nat) : Int); omega) (mz _ _) ?_
    refine m_blk 22 [(4, vi x1), (0, vr 0 0), (1, vi p), (2, vi e), (3, vi s)] [vi e, vr 44 p.toNat] C f_q_worth_21_1 rfl ?_
    obtain ⟨x36, hx36⟩ : ∃ x, A 44 p.toNat e.toNat = x := ⟨_, rfl⟩
    have rx36 : (-1) ≤ x36 ∧ x36 ≤ 255 := mrg hT hx36 rfl
    refine m_iald C e_q_worth_22 rfl (by omega) (by decide) (by omega) (by show e < ((120 : Nat) : Int); omega) x36 hx36 ?_
    exact m_iret C Rm E e_q_worth_23 ⟨x36, rfl, rfl, (by show -2147483648 ≤ x36 ∧ x36 ≤ 2147483647; omega)⟩

theorem q_worth_ : ∀ n : Nat, S_worth n := fun n => by
  induction n with
  | zero => exact q_worth 0 (fun n1 h => absurd h (by omega))
  | succ n ih => exact q_worth (n + 1) (fun n1 h => by
      have : n1 = n := by omega
      rw [this]
      exact ih)

theorem f_q_namesIn_0_2 : mblkB b_Mo_namesIn [(0, .iload_n 2, vi 0), (1, .iconst (-1), vi (-1))] = true := by decide +kernel
theorem e_q_namesIn_2 : decode b_Mo_namesIn 2 = .ok (.if_icmp .ne 5, 3) := by decide +kernel
theorem f_q_namesIn_7_1 : mblkB b_Mo_namesIn [(7, .aload_n 0, vi 0)] = true := by decide +kernel
theorem e_q_namesIn_8 : decode b_Mo_namesIn 8 = .ok (.getfield 48, 3) := by decide +kernel
theorem f_q_namesIn_11_1 : mblkB b_Mo_namesIn [(11, .iload_n 1, vi 0)] = true := by decide +kernel
theorem e_q_namesIn_12 : decode b_Mo_namesIn 12 = .ok (.aaload, 1) := by decide +kernel
theorem f_q_namesIn_13_1 : mblkB b_Mo_namesIn [(13, .iload_n 2, vi 0)] = true := by decide +kernel
theorem e_q_namesIn_14 : decode b_Mo_namesIn 14 = .ok (.iaload, 1) := by decide +kernel
theorem f_q_namesIn_15_1 : mblkB b_Mo_namesIn [(15, .iconst 1, vi 1)] = true := by decide +kernel
theorem e_q_namesIn_16 : decode b_Mo_namesIn 16 = .ok (.if_icmp .ne 14, 3) := by decide +kernel
theorem f_q_namesIn_30_3 : mblkB b_Mo_namesIn [(30, .aload_n 0, vi 0), (31, .iload_n 1, vi 0), (32, .aload_n 0, vi 0)] = true := by decide +kernel
theorem e_q_namesIn_33 : decode b_Mo_namesIn 33 = .ok (.getfield 54, 3) := by decide +kernel
theorem f_q_namesIn_36_1 : mblkB b_Mo_namesIn [(36, .iload_n 1, vi 0)] = true := by decide +kernel
theorem e_q_namesIn_37 : decode b_Mo_namesIn 37 = .ok (.aaload, 1) := by decide +kernel
theorem f_q_namesIn_38_1 : mblkB b_Mo_namesIn [(38, .iload_n 2, vi 0)] = true := by decide +kernel
theorem e_q_namesIn_39 : decode b_Mo_namesIn 39 = .ok (.iaload, 1) := by decide +kernel
theorem e_q_namesIn_40 : decode b_Mo_namesIn 40 = .ok (.invokevirtual 266, 3) := by decide +kernel
theorem f_q_namesIn_43_3 : mblkB b_Mo_namesIn [(43, .aload_n 0, vi 0), (44, .iload_n 1, vi 0), (45, .aload_n 0, vi 0)] = true := by decide +kernel
theorem e_q_namesIn_46 : decode b_Mo_namesIn 46 = .ok (.getfield 57, 3) := by decide +kernel
theorem f_q_namesIn_49_1 : mblkB b_Mo_namesIn [(49, .iload_n 1, vi 0)] = true := by decide +kernel
theorem e_q_namesIn_50 : decode b_Mo_namesIn 50 = .ok (.aaload, 1) := by decide +kernel
theorem f_q_namesIn_51_1 : mblkB b_Mo_namesIn [(51, .iload_n 2, vi 0)] = true := by decide +kernel
theorem e_q_namesIn_52 : decode b_Mo_namesIn 52 = .ok (.iaload, 1) := by decide +kernel
theorem e_q_namesIn_53 : decode b_Mo_namesIn 53 = .ok (.invokevirtual 266, 3) := by decide +kernel
theorem f_q_namesIn_56_1 : mblkB b_Mo_namesIn [(56, .ior, vi 0)] = true := by decide +kernel
theorem e_q_namesIn_57 : decode b_Mo_namesIn 57 = .ok (.ireturn, 1) := by decide +kernel
theorem f_q_namesIn_19_2 : mblkB b_Mo_namesIn [(19, .iconst 1, vi 1), (20, .aload_n 0, vi 0)] = true := by decide +kernel
theorem e_q_namesIn_21 : decode b_Mo_namesIn 21 = .ok (.getfield 51, 3) := by decide +kernel
theorem f_q_namesIn_24_1 : mblkB b_Mo_namesIn [(24, .iload_n 1, vi 0)] = true := by decide +kernel
theorem e_q_namesIn_25 : decode b_Mo_namesIn 25 = .ok (.aaload, 1) := by decide +kernel
theorem f_q_namesIn_26_1 : mblkB b_Mo_namesIn [(26, .iload_n 2, vi 0)] = true := by decide +kernel
theorem e_q_namesIn_27 : decode b_Mo_namesIn 27 = .ok (.iaload, 1) := by decide +kernel
theorem f_q_namesIn_28_1 : mblkB b_Mo_namesIn [(28, .ishl, vi 0)] = true := by decide +kernel
theorem e_q_namesIn_29 : decode b_Mo_namesIn 29 = .ok (.ireturn, 1) := by decide +kernel
theorem f_q_namesIn_5_1 : mblkB b_Mo_namesIn [(5, .iconst 0, vi 0)] = true := by decide +kernel
theorem e_q_namesIn_6 : decode b_Mo_namesIn 6 = .ok (.ireturn, 1) := by decide +kernel
set_option maxHeartbeats 40000000 in
set_option maxRecDepth 100000 in
theorem q_namesIn (n : Nat) (hrec : ∀ n1 : Nat, n = n1 + 1 → S_namesIn n1) : S_namesIn n := by
  intro l D B H0 ad A hT M p e hN hM he
  refine m_met (by decide) rfl (fun g w0 C Rm Y E => ?_)
  show JM g D ad w0 A 0 [(0, vr 0 0), (1, vi p), (2, vi e)] []
  refine m_blk 2 [(0, vr 0 0), (1, vi p), (2, vi e)] [vi (-1), vi e] C f_q_namesIn_0_2 rfl ?_
  refine m_icmp_ne (tgt := 7) C e_q_namesIn_2 (by decide) (by omega) (by decide) (fun c1 => ?_) (fun c1 => ?_)
  · obtain ⟨n1, hn1⟩ : ∃ n1, n = n1 + 1 := ⟨n - 1, by omega⟩
    have h1 := hN.at (e := e) (by omega) (by omega)
    refine m_blk 8 [(0, vr 0 0), (1, vi p), (2, vi e)] [vr 0 0] C f_q_namesIn_7_1 rfl ?_
    refine m_getr C e_q_namesIn_8 fg_Mo_48 rfl (by decide) rfl ?_
    refine m_blk 12 [(0, vr 0 0), (1, vi p), (2, vi e)] [vi p, vr 23 0] C f_q_namesIn_11_1 rfl ?_
    refine m_aald C p.toNat e_q_namesIn_12 rfl rfl rfl (by decide) (by decide) (by omega) (by show p < ((6 : Nat) : Int); omega) (mz _ _) ?_
    refine m_blk 14 [(0, vr 0 0), (1, vi p), (2, vi e)] [vi e, vr 43 p.toNat] C f_q_namesIn_13_1 rfl ?_
    obtain ⟨x2, hx2⟩ : ∃ x, A 43 p.toNat e.toNat = x := ⟨_, rfl⟩
    have rx2 : (-1) ≤ x2 ∧ x2 ≤ 255 := mrg hT hx2 rfl
    refine m_iald C e_q_namesIn_14 rfl (by omega) (by decide) (by omega) (by show e < ((120 : Nat) : Int); omega) x2 hx2 ?_
    refine m_blk 16 [(0, vr 0 0), (1, vi p), (2, vi e)] [vi 1, vi x2] C f_q_namesIn_15_1 rfl ?_
    refine m_icmp_ne (tgt := 30) C e_q_namesIn_16 (by decide) (by omega) (by decide) (fun c3 => ?_) (fun c3 => ?_)
    · refine m_blk 33 [(0, vr 0 0), (1, vi p), (2, vi e)] [vr 0 0, vi p, vr 0 0] C f_q_namesIn_30_3 rfl ?_
      refine m_getr C e_q_namesIn_33 fg_Mo_54 rfl (by decide) rfl ?_
      refine m_blk 37 [(0, vr 0 0), (1, vi p), (2, vi e)] [vi p, vr 25 0, vi p, vr 0 0] C f_q_namesIn_36_1 rfl ?_
      refine m_aald C p.toNat e_q_namesIn_37 rfl rfl rfl (by decide) (by decide) (by omega) (by show p < ((6 : Nat) : Int); omega) (mz _ _) ?_
      refine m_blk 39 [(0, vr 0 0), (1, vi p), (2, vi e)] [vi e, vr 45 p.toNat, vi p, vr 0 0] C f_q_namesIn_38_1 rfl ?_
      obtain ⟨x4, hx4⟩ : ∃ x, A 45 p.toNat e.toNat = x := ⟨_, rfl⟩
      have rx4 : (-1) ≤ x4 ∧ x4 ≤ 119 := mrg hT hx4 rfl
      refine m_iald C e_q_namesIn_39 rfl (by omega) (by decide) (by omega) (by show e < ((120 : Nat) : Int); omega) x4 hx4 ?_
      refine m_callV C Rm Y [vi p, vi x4] [] ((hrec n1 hn1) l D B H0 ad _ hT M p x4 hN (by show 0 ≤ p ∧ p ≤ 5 ∧ M ≤ 120; omega) (by show -1 ≤ x4 ∧ x4 < M ∧ x4 < (n1 : Int); omega)) cl_Mo_266 rfl (by decide) rfl rfl e_q_namesIn_40 rfl rfl rfl ⟨by show _ ≤ (3 + n : Nat); omega, by show _ ≤ (80 + 30 * n : Nat); omega⟩ ?_
      rintro v5 A6 ⟨z9, rfl, rfl, raw_hz_n8⟩
      have hz_n8 : -2147483648 ≤ z9 ∧ z9 ≤ 2147483647 := raw_hz_n8
      clear raw_hz_n8
      show JM g D ad w0 A 43 [(0, vr 0 0), (1, vi p), (2, vi e)] [vi z9]
      refine m_blk 46 [(0, vr 0 0), (1, vi p), (2, vi e)] [vr 0 0, vi p, vr 0 0, vi z9] C f_q_namesIn_43_3 rfl ?_
      refine m_getr C e_q_namesIn_46 fg_Mo_57 rfl (by decide) rfl ?_
      refine m_blk 50 [(0, vr 0 0), (1, vi p), (2, vi e)] [vi p, vr 26 0, vi p, vr 0 0, vi z9] C f_q_namesIn_49_1 rfl ?_
      refine m_aald C p.toNat e_q_namesIn_50 rfl rfl rfl (by decide) (by decide) (by omega) (by show p < ((6 : Nat) : Int); omega) (mz _ _) ?_
      refine m_blk 52 [(0, vr 0 0), (1, vi p), (2, vi e)] [vi e, vr 46 p.toNat, vi p, vr 0 0, vi z9] C f_q_namesIn_51_1 rfl ?_
      obtain ⟨x10, hx10⟩ : ∃ x, A 46 p.toNat e.toNat = x := ⟨_, rfl⟩
      have rx10 : (-1) ≤ x10 ∧ x10 ≤ 119 := mrg hT hx10 rfl
      refine m_iald C e_q_namesIn_52 rfl (by omega) (by decide) (by omega) (by show e < ((120 : Nat) : Int); omega) x10 hx10 ?_
      refine m_callV C Rm Y [vi p, vi x10] [vi z9] ((hrec n1 hn1) l D B H0 ad _ hT M p x10 hN (by show 0 ≤ p ∧ p ≤ 5 ∧ M ≤ 120; omega) (by show -1 ≤ x10 ∧ x10 < M ∧ x10 < (n1 : Int); omega)) cl_Mo_266 rfl (by decide) rfl rfl e_q_namesIn_53 rfl rfl rfl ⟨by show _ ≤ (3 + n : Nat); omega, by show _ ≤ (80 + 30 * n : Nat); omega⟩ ?_
      rintro v11 A12 ⟨z15, rfl, rfl, raw_hz_n14⟩
      have hz_n14 : -2147483648 ≤ z15 ∧ z15 ≤ 2147483647 := raw_hz_n14
      clear raw_hz_n14
      show JM g D ad w0 A 56 [(0, vr 0 0), (1, vi p), (2, vi e)] [vi z15, vi z9]
      refine m_blk 57 [(0, vr 0 0), (1, vi p), (2, vi e)] [vi (iOr z9 z15)] C f_q_namesIn_56_1 rfl ?_
      refine m_nrm (fun y16 hy16 => ?_)
      exact m_iret C Rm E e_q_namesIn_57 ⟨y16, rfl, rfl, (by show -2147483648 ≤ y16 ∧ y16 ≤ 2147483647; omega)⟩
    · refine m_blk 21 [(0, vr 0 0), (1, vi p), (2, vi e)] [vr 0 0, vi 1] C f_q_namesIn_19_2 rfl ?_
      refine m_getr C e_q_namesIn_21 fg_Mo_51 rfl (by decide) rfl ?_
      refine m_blk 25 [(0, vr 0 0), (1, vi p), (2, vi e)] [vi p, vr 24 0, vi 1] C f_q_namesIn_24_1 rfl ?_
      refine m_aald C p.toNat e_q_namesIn_25 rfl rfl rfl (by decide) (by decide) (by omega) (by show p < ((6 : Nat) : Int); omega) (mz _ _) ?_
      refine m_blk 27 [(0, vr 0 0), (1, vi p), (2, vi e)] [vi e, vr 44 p.toNat, vi 1] C f_q_namesIn_26_1 rfl ?_
      obtain ⟨x17, hx17⟩ : ∃ x, A 44 p.toNat e.toNat = x := ⟨_, rfl⟩
      have rx17 : (-1) ≤ x17 ∧ x17 ≤ 255 := mrg hT hx17 rfl
      refine m_iald C e_q_namesIn_27 rfl (by omega) (by decide) (by omega) (by show e < ((120 : Nat) : Int); omega) x17 hx17 ?_
      refine m_blk 29 [(0, vr 0 0), (1, vi p), (2, vi e)] [vi (iShl 1 x17)] C f_q_namesIn_28_1 rfl ?_
      refine m_nrm (fun y18 hy18 => ?_)
      exact m_iret C Rm E e_q_namesIn_29 ⟨y18, rfl, rfl, (by show -2147483648 ≤ y18 ∧ y18 ≤ 2147483647; omega)⟩
  · refine m_blk 6 [(0, vr 0 0), (1, vi p), (2, vi e)] [vi 0] C f_q_namesIn_5_1 rfl ?_
    exact m_iret C Rm E e_q_namesIn_6 ⟨0, rfl, rfl, (by show -2147483648 ≤ 0 ∧ 0 ≤ 2147483647; omega)⟩

theorem q_namesIn_ : ∀ n : Nat, S_namesIn n := fun n => by
  induction n with
  | zero => exact q_namesIn 0 (fun n1 h => absurd h (by omega))
  | succ n ih => exact q_namesIn (n + 1) (fun n1 h => by
      have : n1 = n := by omega
      rw [this]
      exact ih)

theorem f_q_sees_0_2 : mblkB b_Mo_sees [(0, .iconst 0, vi 0), (1, .istore_n 2, vi 0)] = true := by decide +kernel
theorem f_q_sees_2_2 : mblkB b_Mo_sees [(2, .iload_n 2, vi 0), (3, .aload_n 0, vi 0)] = true := by decide +kernel
theorem e_q_sees_4 : decode b_Mo_sees 4 = .ok (.getfield 9, 3) := by decide +kernel
theorem f_q_sees_7_1 : mblkB b_Mo_sees [(7, .iload_n 1, vi 0)] = true := by decide +kernel
theorem e_q_sees_8 : decode b_Mo_sees 8 = .ok (.iaload, 1) := by decide +kernel
theorem e_q_sees_9 : decode b_Mo_sees 9 = .ok (.if_icmp .ge 50, 3) := by decide +kernel
theorem f_q_sees_59_1 : mblkB b_Mo_sees [(59, .iconst 0, vi 0)] = true := by decide +kernel
theorem e_q_sees_60 : decode b_Mo_sees 60 = .ok (.ireturn, 1) := by decide +kernel
theorem f_q_sees_12_1 : mblkB b_Mo_sees [(12, .aload_n 0, vi 0)] = true := by decide +kernel
theorem e_q_sees_13 : decode b_Mo_sees 13 = .ok (.getfield 21, 3) := by decide +kernel
theorem f_q_sees_16_1 : mblkB b_Mo_sees [(16, .iload_n 1, vi 0)] = true := by decide +kernel
theorem e_q_sees_17 : decode b_Mo_sees 17 = .ok (.aaload, 1) := by decide +kernel
theorem f_q_sees_18_1 : mblkB b_Mo_sees [(18, .iload_n 2, vi 0)] = true := by decide +kernel
theorem e_q_sees_19 : decode b_Mo_sees 19 = .ok (.iaload, 1) := by decide +kernel
theorem f_q_sees_20_1 : mblkB b_Mo_sees [(20, .iconst 2, vi 2)] = true := by decide +kernel
theorem e_q_sees_21 : decode b_Mo_sees 21 = .ok (.if_icmp .eq 30, 3) := by decide +kernel
theorem f_q_sees_51_1 : mblkB b_Mo_sees [(51, .iconst 1, vi 1)] = true := by decide +kernel
theorem e_q_sees_52 : decode b_Mo_sees 52 = .ok (.ireturn, 1) := by decide +kernel
theorem f_q_sees_24_1 : mblkB b_Mo_sees [(24, .aload_n 0, vi 0)] = true := by decide +kernel
theorem e_q_sees_25 : decode b_Mo_sees 25 = .ok (.getfield 21, 3) := by decide +kernel
theorem f_q_sees_28_1 : mblkB b_Mo_sees [(28, .iload_n 1, vi 0)] = true := by decide +kernel
theorem e_q_sees_29 : decode b_Mo_sees 29 = .ok (.aaload, 1) := by decide +kernel
theorem f_q_sees_30_1 : mblkB b_Mo_sees [(30, .iload_n 2, vi 0)] = true := by decide +kernel
theorem e_q_sees_31 : decode b_Mo_sees 31 = .ok (.iaload, 1) := by decide +kernel
theorem f_q_sees_32_1 : mblkB b_Mo_sees [(32, .iconst 5, vi 5)] = true := by decide +kernel
theorem e_q_sees_33 : decode b_Mo_sees 33 = .ok (.if_icmp .ne 20, 3) := by decide +kernel
theorem f_q_sees_53_2 : mblkB b_Mo_sees [(53, .iinc 2 1, vi 1), (56, .goto (-54), vi 2)] = true := by decide +kernel
theorem f_q_sees_36_2 : mblkB b_Mo_sees [(36, .aload_n 0, vi 0), (37, .aload_n 0, vi 0)] = true := by decide +kernel
theorem e_q_sees_38 : decode b_Mo_sees 38 = .ok (.getfield 27, 3) := by decide +kernel
theorem f_q_sees_41_1 : mblkB b_Mo_sees [(41, .iload_n 1, vi 0)] = true := by decide +kernel
theorem e_q_sees_42 : decode b_Mo_sees 42 = .ok (.aaload, 1) := by decide +kernel
theorem f_q_sees_43_1 : mblkB b_Mo_sees [(43, .iload_n 2, vi 0)] = true := by decide +kernel
theorem e_q_sees_44 : decode b_Mo_sees 44 = .ok (.iaload, 1) := by decide +kernel
theorem e_q_sees_45 : decode b_Mo_sees 45 = .ok (.invokevirtual 303, 3) := by decide +kernel
theorem e_q_sees_48 : decode b_Mo_sees 48 = .ok (.ifCond .eq 5, 3) := by decide +kernel
set_option maxHeartbeats 40000000 in
set_option maxRecDepth 100000 in
theorem q_sees (n : Nat) (hrec : ∀ n1 : Nat, n = n1 + 1 → S_sees n1) : S_sees n := by
  intro l D B H0 ad A hT p ha hp
  refine m_met (by decide) rfl (fun g w0 C Rm Y E => ?_)
  show JM g D ad w0 A 0 [(0, vr 0 0), (1, vi p)] []
  obtain ⟨M, Ln, dep, hK⟩ := ha.at (p := p) (by omega) (by omega)
  have hr9 := hK.rng
  obtain ⟨n1, hn1⟩ : ∃ n1, n = n1 + 1 := ⟨n - 1, by omega⟩
  refine m_blk 2 [(2, vi 0), (0, vr 0 0), (1, vi p)] [] C f_q_sees_0_2 rfl ?_
  have hd_2 : ∀ (NZ : Nat) (i : Int), 0 ≤ i ∧ i ≤ 16 → (40 - i) < (NZ : Int) → JM g D ad w0 A 2 [(2, vi i), (0, vr 0 0), (1, vi p)] [] := by
    intro NZ
    induction NZ with
    | zero => intro i hi hm; exact absurd hm (by omega)
    | succ NZ ih =>
      intro i hi hm
      refine m_blk 4 [(2, vi i), (0, vr 0 0), (1, vi p)] [vr 0 0, vi i] C f_q_sees_2_2 rfl ?_
      refine m_getr C e_q_sees_4 fg_Mo_9 rfl (by decide) rfl ?_
      refine m_blk 8 [(2, vi i), (0, vr 0 0), (1, vi p)] [vi p, vr 5 0, vi i] C f_q_sees_7_1 rfl ?_
      obtain ⟨x1, hx1⟩ : ∃ x, A 5 0 p.toNat = x := ⟨_, rfl⟩
      have rx1 : 0 ≤ x1 ∧ x1 ≤ 16 := mrg hT hx1 rfl
      refine m_iald C e_q_sees_8 rfl (by decide) (by decide) (by omega) (by show p < ((6 : Nat) : Int); omega) x1 hx1 ?_
      refine m_icmp_ge (tgt := 59) C e_q_sees_9 (by decide) (by omega) (by omega) (fun c2 => ?_) (fun c2 => ?_)
      · refine m_blk 60 [(2, vi i), (0, vr 0 0), (1, vi p)] [vi 0] C f_q_sees_59_1 rfl ?_
        exact m_zret C Rm E (Or.inl rfl) e_q_sees_60 ⟨0, rfl, rfl, (by show 0 = 0 ∨ 0 = 1; omega)⟩
      · refine m_blk 13 [(2, vi i), (0, vr 0 0), (1, vi p)] [vr 0 0] C f_q_sees_12_1 rfl ?_
        refine m_getr C e_q_sees_13 fg_Mo_21 rfl (by decide) rfl ?_
        refine m_blk 17 [(2, vi i), (0, vr 0 0), (1, vi p)] [vi p, vr 14 0] C f_q_sees_16_1 rfl ?_
        refine m_aald C p.toNat e_q_sees_17 rfl rfl rfl (by decide) (by decide) (by omega) (by show p < ((6 : Nat) : Int); omega) (mz _ _) ?_
        refine m_blk 19 [(2, vi i), (0, vr 0 0), (1, vi p)] [vi i, vr 34 p.toNat] C f_q_sees_18_1 rfl ?_
        obtain ⟨x3, hx3⟩ : ∃ x, A 34 p.toNat i.toNat = x := ⟨_, rfl⟩
        have rx3 : (-1) ≤ x3 ∧ x3 ≤ 255 := mrg hT hx3 rfl
        refine m_iald C e_q_sees_19 rfl (by omega) (by decide) (by omega) (by show i < ((16 : Nat) : Int); omega) x3 hx3 ?_
        refine m_blk 21 [(2, vi i), (0, vr 0 0), (1, vi p)] [vi 2, vi x3] C f_q_sees_20_1 rfl ?_
        refine m_icmp_eq (tgt := 51) C e_q_sees_21 (by decide) (by omega) (by decide) (fun c4 => ?_) (fun c4 => ?_)
        · refine m_blk 52 [(2, vi i), (0, vr 0 0), (1, vi p)] [vi 1] C f_q_sees_51_1 rfl ?_
          exact m_zret C Rm E (Or.inr rfl) e_q_sees_52 ⟨1, rfl, rfl, (by show 1 = 0 ∨ 1 = 1; omega)⟩
        · refine m_blk 25 [(2, vi i), (0, vr 0 0), (1, vi p)] [vr 0 0] C f_q_sees_24_1 rfl ?_
          refine m_getr C e_q_sees_25 fg_Mo_21 rfl (by decide) rfl ?_
          refine m_blk 29 [(2, vi i), (0, vr 0 0), (1, vi p)] [vi p, vr 14 0] C f_q_sees_28_1 rfl ?_
          refine m_aald C p.toNat e_q_sees_29 rfl rfl rfl (by decide) (by decide) (by omega) (by show p < ((6 : Nat) : Int); omega) (mz _ _) ?_
          refine m_blk 31 [(2, vi i), (0, vr 0 0), (1, vi p)] [vi i, vr 34 p.toNat] C f_q_sees_30_1 rfl ?_
          refine m_iald C e_q_sees_31 rfl (by omega) (by decide) (by omega) (by show i < ((16 : Nat) : Int); omega) x3 hx3 ?_
          refine m_blk 33 [(2, vi i), (0, vr 0 0), (1, vi p)] [vi 5, vi x3] C f_q_sees_32_1 rfl ?_
          refine m_icmp_ne (tgt := 53) C e_q_sees_33 (by decide) (by omega) (by decide) (fun c5 => ?_) (fun c5 => ?_)
          · refine m_blk 2 [(2, vi (i + 1)), (0, vr 0 0), (1, vi p)] [] C f_q_sees_53_2 rfl ?_
            refine m_loc [(2, vi (i + 1)), (0, vr 0 0), (1, vi p)] ⟨rfl, rfl, rfl, trivial⟩ ?_
            exact ih (i + 1) (by show 0 ≤ (i + 1) ∧ (i + 1) ≤ 16; omega) (by have hm9 := hm; show (40 - (i + 1)) < _; omega)
          · have hs9 := hK.at (i := i) (by omega) (by omega)
            have f9 := hs9.k5 (by omega)
            refine m_blk 38 [(2, vi i), (0, vr 0 0), (1, vi p)] [vr 0 0, vr 0 0] C f_q_sees_36_2 rfl ?_
            refine m_getr C e_q_sees_38 fg_Mo_27 rfl (by decide) rfl ?_
            refine m_blk 42 [(2, vi i), (0, vr 0 0), (1, vi p)] [vi p, vr 16 0, vr 0 0] C f_q_sees_41_1 rfl ?_
            refine m_aald C p.toNat e_q_sees_42 rfl rfl rfl (by decide) (by decide) (by omega) (by show p < ((6 : Nat) : Int); omega) (mz _ _) ?_
            refine m_blk 44 [(2, vi i), (0, vr 0 0), (1, vi p)] [vi i, vr 36 p.toNat, vr 0 0] C f_q_sees_43_1 rfl ?_
            obtain ⟨x6, hx6⟩ : ∃ x, A 36 p.toNat i.toNat = x := ⟨_, rfl⟩
            have rx6 : (-1) ≤ x6 ∧ x6 ≤ 9 := mrg hT hx6 rfl
            refine m_iald C e_q_sees_44 rfl (by omega) (by decide) (by omega) (by show i < ((16 : Nat) : Int); omega) x6 hx6 ?_
            refine m_callV C Rm Y [vi x6] [] ((hrec n1 hn1) l D B H0 ad _ hT x6 (ha.le (by omega)) (by show 0 ≤ x6 ∧ x6 ≤ 5 ∧ x6 < (n1 : Int); omega)) cl_Mo_303 rfl (by decide) rfl rfl e_q_sees_45 rfl rfl rfl ⟨by show _ ≤ (3 + n : Nat); omega, by show _ ≤ (80 + 30 * n : Nat); omega⟩ ?_
            rintro v7 A8 ⟨z11, rfl, rfl, raw_hz_n10⟩
            have hz_n10 : z11 = 0 ∨ z11 = 1 := raw_hz_n10
            clear raw_hz_n10
            show JM g D ad w0 A 48 [(2, vi i), (0, vr 0 0), (1, vi p)] [vi z11]
            refine m_if_eq (tgt := 53) C e_q_sees_48 (by decide) (by omega) (fun c12 => ?_) (fun c12 => ?_)
            · refine m_blk 2 [(2, vi (i + 1)), (0, vr 0 0), (1, vi p)] [] C f_q_sees_53_2 rfl ?_
              refine m_loc [(2, vi (i + 1)), (0, vr 0 0), (1, vi p)] ⟨rfl, rfl, rfl, trivial⟩ ?_
              exact ih (i + 1) (by show 0 ≤ (i + 1) ∧ (i + 1) ≤ 16; omega) (by have hm9 := hm; show (40 - (i + 1)) < _; omega)
            · refine m_blk 52 [(2, vi i), (0, vr 0 0), (1, vi p)] [vi 1] C f_q_sees_51_1 rfl ?_
              exact m_zret C Rm E (Or.inr rfl) e_q_sees_52 ⟨1, rfl, rfl, (by show 1 = 0 ∨ 1 = 1; omega)⟩
  refine m_loc [(2, vi 0), (0, vr 0 0), (1, vi p)] ⟨rfl, rfl, rfl, trivial⟩ ?_
  exact hd_2 (Int.toNat ((40 - 0)) + 1) 0 (by show 0 ≤ 0 ∧ 0 ≤ 16; omega) (by show (40 - 0) < _; omega)

theorem q_sees_ : ∀ n : Nat, S_sees n := fun n => by
  induction n with
  | zero => exact q_sees 0 (fun n1 h => absurd h (by omega))
  | succ n ih => exact q_sees (n + 1) (fun n1 h => by
      have : n1 = n := by omega
      rw [this]
      exact ih)

theorem f_q_neededAhead_0_1 : mblkB b_Mo_neededAhead [(0, .aload_n 0, vi 0)] = true := by decide +kernel
theorem e_q_neededAhead_1 : decode b_Mo_neededAhead 1 = .ok (.getfield 24, 3) := by decide +kernel
theorem f_q_neededAhead_4_1 : mblkB b_Mo_neededAhead [(4, .iload_n 1, vi 0)] = true := by decide +kernel
theorem e_q_neededAhead_5 : decode b_Mo_neededAhead 5 = .ok (.aaload, 1) := by decide +kernel
theorem f_q_neededAhead_6_1 : mblkB b_Mo_neededAhead [(6, .iload_n 2, vi 0)] = true := by decide +kernel
theorem e_q_neededAhead_7 : decode b_Mo_neededAhead 7 = .ok (.iaload, 1) := by decide +kernel
theorem f_q_neededAhead_8_1 : mblkB b_Mo_neededAhead [(8, .iconst (-1), vi (-1))] = true := by decide +kernel
theorem e_q_neededAhead_9 : decode b_Mo_neededAhead 9 = .ok (.if_icmp .ne 7, 3) := by decide +kernel
theorem f_q_neededAhead_16_2 : mblkB b_Mo_neededAhead [(16, .iconst 1, vi 1), (17, .aload_n 0, vi 0)] = true := by decide +kernel
theorem e_q_neededAhead_18 : decode b_Mo_neededAhead 18 = .ok (.getfield 24, 3) := by decide +kernel
theorem f_q_neededAhead_21_1 : mblkB b_Mo_neededAhead [(21, .iload_n 1, vi 0)] = true := by decide +kernel
theorem e_q_neededAhead_22 : decode b_Mo_neededAhead 22 = .ok (.aaload, 1) := by decide +kernel
theorem f_q_neededAhead_23_1 : mblkB b_Mo_neededAhead [(23, .iload_n 2, vi 0)] = true := by decide +kernel
theorem e_q_neededAhead_24 : decode b_Mo_neededAhead 24 = .ok (.iaload, 1) := by decide +kernel
theorem f_q_neededAhead_25_5 : mblkB b_Mo_neededAhead [(25, .ishl, vi 0), (26, .istore 4, vi 0), (28, .aload_n 0, vi 0), (29, .iload_n 1, vi 0), (30, .aload_n 0, vi 0)] = true := by decide +kernel
theorem e_q_neededAhead_31 : decode b_Mo_neededAhead 31 = .ok (.getfield 36, 3) := by decide +kernel
theorem f_q_neededAhead_34_1 : mblkB b_Mo_neededAhead [(34, .iload_n 1, vi 0)] = true := by decide +kernel
theorem e_q_neededAhead_35 : decode b_Mo_neededAhead 35 = .ok (.aaload, 1) := by decide +kernel
theorem f_q_neededAhead_36_1 : mblkB b_Mo_neededAhead [(36, .iload_n 2, vi 0)] = true := by decide +kernel
theorem e_q_neededAhead_37 : decode b_Mo_neededAhead 37 = .ok (.iaload, 1) := by decide +kernel
theorem e_q_neededAhead_38 : decode b_Mo_neededAhead 38 = .ok (.invokevirtual 266, 3) := by decide +kernel
theorem f_q_neededAhead_41_2 : mblkB b_Mo_neededAhead [(41, .istore 5, vi 0), (43, .aload_n 0, vi 0)] = true := by decide +kernel
theorem e_q_neededAhead_44 : decode b_Mo_neededAhead 44 = .ok (.getfield 21, 3) := by decide +kernel
theorem f_q_neededAhead_47_1 : mblkB b_Mo_neededAhead [(47, .iload_n 1, vi 0)] = true := by decide +kernel
theorem e_q_neededAhead_48 : decode b_Mo_neededAhead 48 = .ok (.aaload, 1) := by decide +kernel
theorem f_q_neededAhead_49_1 : mblkB b_Mo_neededAhead [(49, .iload_n 2, vi 0)] = true := by decide +kernel
theorem e_q_neededAhead_50 : decode b_Mo_neededAhead 50 = .ok (.iaload, 1) := by decide +kernel
theorem e_q_neededAhead_51 : decode b_Mo_neededAhead 51 = .ok (.tableswitch 158 0 4 #[33, 40, 61, 66, 110], 33) := by decide +kernel
theorem f_q_neededAhead_84_5 : mblkB b_Mo_neededAhead [(84, .iload_n 3, vi 0), (85, .iload 4, vi 0), (87, .iconst (-1), vi (-1)), (88, .ixor, vi 0), (89, .iand, vi 0)] = true := by decide +kernel
theorem e_q_neededAhead_90 : decode b_Mo_neededAhead 90 = .ok (.ireturn, 1) := by decide +kernel
theorem f_q_neededAhead_91_3 : mblkB b_Mo_neededAhead [(91, .iload_n 3, vi 0), (92, .iload 4, vi 0), (94, .iand, vi 0)] = true := by decide +kernel
theorem e_q_neededAhead_95 : decode b_Mo_neededAhead 95 = .ok (.ifCond .eq 15, 3) := by decide +kernel
theorem f_q_neededAhead_110_1 : mblkB b_Mo_neededAhead [(110, .iload_n 3, vi 0)] = true := by decide +kernel
theorem e_q_neededAhead_111 : decode b_Mo_neededAhead 111 = .ok (.ireturn, 1) := by decide +kernel
theorem f_q_neededAhead_98_8 : mblkB b_Mo_neededAhead [(98, .iload_n 3, vi 0), (99, .iload 4, vi 0), (101, .iconst (-1), vi (-1)), (102, .ixor, vi 0), (103, .iand, vi 0), (104, .iload 5, vi 0), (106, .ior, vi 0), (107, .goto 4, vi 111)] = true := by decide +kernel
theorem f_q_neededAhead_112_3 : mblkB b_Mo_neededAhead [(112, .iload_n 3, vi 0), (113, .iload 5, vi 0), (115, .ior, vi 0)] = true := by decide +kernel
theorem e_q_neededAhead_116 : decode b_Mo_neededAhead 116 = .ok (.ireturn, 1) := by decide +kernel
theorem f_q_neededAhead_117_6 : mblkB b_Mo_neededAhead [(117, .aload_n 0, vi 0), (118, .iload_n 1, vi 0), (119, .iload_n 2, vi 0), (120, .iconst 1, vi 1), (121, .iadd, vi 0), (122, .aload_n 0, vi 0)] = true := by decide +kernel
theorem e_q_neededAhead_123 : decode b_Mo_neededAhead 123 = .ok (.getfield 33, 3) := by decide +kernel
theorem f_q_neededAhead_126_1 : mblkB b_Mo_neededAhead [(126, .iload_n 1, vi 0)] = true := by decide +kernel
theorem e_q_neededAhead_127 : decode b_Mo_neededAhead 127 = .ok (.aaload, 1) := by decide +kernel
theorem f_q_neededAhead_128_1 : mblkB b_Mo_neededAhead [(128, .iload_n 2, vi 0)] = true := by decide +kernel
theorem e_q_neededAhead_129 : decode b_Mo_neededAhead 129 = .ok (.iaload, 1) := by decide +kernel
theorem f_q_neededAhead_130_1 : mblkB b_Mo_neededAhead [(130, .iload_n 3, vi 0)] = true := by decide +kernel
theorem e_q_neededAhead_131 : decode b_Mo_neededAhead 131 = .ok (.invokevirtual 300, 3) := by decide +kernel
theorem f_q_neededAhead_134_3 : mblkB b_Mo_neededAhead [(134, .aload_n 0, vi 0), (135, .iload_n 1, vi 0), (136, .aload_n 0, vi 0)] = true := by decide +kernel
theorem e_q_neededAhead_137 : decode b_Mo_neededAhead 137 = .ok (.getfield 33, 3) := by decide +kernel
theorem f_q_neededAhead_140_1 : mblkB b_Mo_neededAhead [(140, .iload_n 1, vi 0)] = true := by decide +kernel
theorem e_q_neededAhead_141 : decode b_Mo_neededAhead 141 = .ok (.aaload, 1) := by decide +kernel
theorem f_q_neededAhead_142_1 : mblkB b_Mo_neededAhead [(142, .iload_n 2, vi 0)] = true := by decide +kernel
theorem e_q_neededAhead_143 : decode b_Mo_neededAhead 143 = .ok (.iaload, 1) := by decide +kernel
theorem f_q_neededAhead_144_1 : mblkB b_Mo_neededAhead [(144, .aload_n 0, vi 0)] = true := by decide +kernel
theorem e_q_neededAhead_145 : decode b_Mo_neededAhead 145 = .ok (.getfield 30, 3) := by decide +kernel
theorem f_q_neededAhead_148_1 : mblkB b_Mo_neededAhead [(148, .iload_n 1, vi 0)] = true := by decide +kernel
theorem e_q_neededAhead_149 : decode b_Mo_neededAhead 149 = .ok (.aaload, 1) := by decide +kernel
theorem f_q_neededAhead_150_1 : mblkB b_Mo_neededAhead [(150, .iload_n 2, vi 0)] = true := by decide +kernel
theorem e_q_neededAhead_151 : decode b_Mo_neededAhead 151 = .ok (.iaload, 1) := by decide +kernel
theorem f_q_neededAhead_152_1 : mblkB b_Mo_neededAhead [(152, .iload_n 3, vi 0)] = true := by decide +kernel
theorem e_q_neededAhead_153 : decode b_Mo_neededAhead 153 = .ok (.invokevirtual 300, 3) := by decide +kernel
theorem f_q_neededAhead_156_3 : mblkB b_Mo_neededAhead [(156, .ior, vi 0), (157, .iload 5, vi 0), (159, .ior, vi 0)] = true := by decide +kernel
theorem e_q_neededAhead_160 : decode b_Mo_neededAhead 160 = .ok (.ireturn, 1) := by decide +kernel
theorem f_q_neededAhead_161_4 : mblkB b_Mo_neededAhead [(161, .iload_n 3, vi 0), (162, .istore 6, vi 0), (164, .iconst 0, vi 0), (165, .istore 7, vi 0)] = true := by decide +kernel
theorem f_q_neededAhead_167_2 : mblkB b_Mo_neededAhead [(167, .iload 7, vi 0), (169, .aload_n 0, vi 0)] = true := by decide +kernel
theorem e_q_neededAhead_170 : decode b_Mo_neededAhead 170 = .ok (.getfield 27, 3) := by decide +kernel
theorem f_q_neededAhead_173_1 : mblkB b_Mo_neededAhead [(173, .iload_n 1, vi 0)] = true := by decide +kernel
theorem e_q_neededAhead_174 : decode b_Mo_neededAhead 174 = .ok (.aaload, 1) := by decide +kernel
theorem f_q_neededAhead_175_1 : mblkB b_Mo_neededAhead [(175, .iload_n 2, vi 0)] = true := by decide +kernel
theorem e_q_neededAhead_176 : decode b_Mo_neededAhead 176 = .ok (.iaload, 1) := by decide +kernel
theorem e_q_neededAhead_177 : decode b_Mo_neededAhead 177 = .ok (.if_icmp .ge 29, 3) := by decide +kernel
theorem f_q_neededAhead_206_1 : mblkB b_Mo_neededAhead [(206, .iload 6, vi 0)] = true := by decide +kernel
theorem e_q_neededAhead_208 : decode b_Mo_neededAhead 208 = .ok (.ireturn, 1) := by decide +kernel
theorem f_q_neededAhead_180_6 : mblkB b_Mo_neededAhead [(180, .aload_n 0, vi 0), (181, .iload_n 1, vi 0), (182, .iload_n 2, vi 0), (183, .iconst 1, vi 1), (184, .iadd, vi 0), (185, .aload_n 0, vi 0)] = true := by decide +kernel
theorem e_q_neededAhead_186 : decode b_Mo_neededAhead 186 = .ok (.getfield 30, 3) := by decide +kernel
theorem f_q_neededAhead_189_1 : mblkB b_Mo_neededAhead [(189, .iload_n 1, vi 0)] = true := by decide +kernel
theorem e_q_neededAhead_190 : decode b_Mo_neededAhead 190 = .ok (.aaload, 1) := by decide +kernel
theorem f_q_neededAhead_191_1 : mblkB b_Mo_neededAhead [(191, .iload_n 2, vi 0)] = true := by decide +kernel
theorem e_q_neededAhead_192 : decode b_Mo_neededAhead 192 = .ok (.iaload, 1) := by decide +kernel
theorem f_q_neededAhead_193_1 : mblkB b_Mo_neededAhead [(193, .iload 6, vi 0)] = true := by decide +kernel
theorem e_q_neededAhead_195 : decode b_Mo_neededAhead 195 = .ok (.invokevirtual 300, 3) := by decide +kernel
theorem f_q_neededAhead_198_3 : mblkB b_Mo_neededAhead [(198, .istore 6, vi 0), (200, .iinc 7 1, vi 1), (203, .goto (-36), vi 167)] = true := by decide +kernel
theorem f_q_neededAhead_209_3 : mblkB b_Mo_neededAhead [(209, .iload_n 3, vi 0), (210, .iload 4, vi 0), (212, .iand, vi 0)] = true := by decide +kernel
theorem e_q_neededAhead_213 : decode b_Mo_neededAhead 213 = .ok (.ifCond .ne 18, 3) := by decide +kernel
theorem f_q_neededAhead_231_8 : mblkB b_Mo_neededAhead [(231, .iload_n 3, vi 0), (232, .iload 4, vi 0), (234, .iconst (-1), vi (-1)), (235, .ixor, vi 0), (236, .iand, vi 0), (237, .iload 5, vi 0), (239, .ior, vi 0), (240, .goto 4, vi 244)] = true := by decide +kernel
theorem e_q_neededAhead_244 : decode b_Mo_neededAhead 244 = .ok (.ireturn, 1) := by decide +kernel
theorem f_q_neededAhead_216_2 : mblkB b_Mo_neededAhead [(216, .aload_n 0, vi 0), (217, .aload_n 0, vi 0)] = true := by decide +kernel
theorem e_q_neededAhead_218 : decode b_Mo_neededAhead 218 = .ok (.getfield 27, 3) := by decide +kernel
theorem f_q_neededAhead_221_1 : mblkB b_Mo_neededAhead [(221, .iload_n 1, vi 0)] = true := by decide +kernel
theorem e_q_neededAhead_222 : decode b_Mo_neededAhead 222 = .ok (.aaload, 1) := by decide +kernel
theorem f_q_neededAhead_223_1 : mblkB b_Mo_neededAhead [(223, .iload_n 2, vi 0)] = true := by decide +kernel
theorem e_q_neededAhead_224 : decode b_Mo_neededAhead 224 = .ok (.iaload, 1) := by decide +kernel
theorem e_q_neededAhead_225 : decode b_Mo_neededAhead 225 = .ok (.invokevirtual 303, 3) := by decide +kernel
theorem e_q_neededAhead_228 : decode b_Mo_neededAhead 228 = .ok (.ifCond .eq 15, 3) := by decide +kernel
theorem f_q_neededAhead_243_1 : mblkB b_Mo_neededAhead [(243, .iload_n 3, vi 0)] = true := by decide +kernel
theorem f_q_neededAhead_12_2 : mblkB b_Mo_neededAhead [(12, .iconst 0, vi 0), (13, .goto 13, vi 26)] = true := by decide +kernel
theorem f_q_neededAhead_26_4 : mblkB b_Mo_neededAhead [(26, .istore 4, vi 0), (28, .aload_n 0, vi 0), (29, .iload_n 1, vi 0), (30, .aload_n 0, vi 0)] = true := by decide +kernel
set_option maxHeartbeats 40000000 in
set_option maxRecDepth 100000 in
theorem q_neededAhead (n : Nat) (hq9 : S_neededFrom n) : S_neededAhead n := by
  intro l D B H0 ad A hT N M Ln dep p i w hp hK ha hi hw
  refine m_met (by decide) rfl (fun g w0 C Rm Y E => ?_)
  show JM g D ad w0 A 0 [(0, vr 0 0), (1, vi p), (2, vi i), (3, vi w)] []
  have hr9 := hK.rng
  have hs9 := hK.at (i := i) (by omega) (by omega)
  have he9 := hs9.en
  have ht9 := hs9.tp
  have hk9 := hs9.kd
  have h36 : -1 ≤ A 36 p.toNat i.toNat ∧ A 36 p.toNat i.toNat ≤ 9 := hT 36 p.toNat i.toNat
  refine m_blk 1 [(0, vr 0 0), (1, vi p), (2, vi i), (3, vi w)] [vr 0 0] C f_q_neededAhead_0_1 rfl ?_
  refine m_getr C e_q_neededAhead_1 fg_Mo_24 rfl (by decide) rfl ?_
  refine m_blk 5 [(0, vr 0 0), (1, vi p), (2, vi i), (3, vi w)] [vi p, vr 15 0] C f_q_neededAhead_4_1 rfl ?_
  refine m_aald C p.toNat e_q_neededAhead_5 rfl rfl rfl (by decide) (by decide) (by omega) (by show p < ((6 : Nat) : Int); omega) (mz _ _) ?_
  refine m_blk 7 [(0, vr 0 0), (1, vi p), (2, vi i), (3, vi w)] [vi i, vr 35 p.toNat] C f_q_neededAhead_6_1 rfl ?_
  obtain ⟨x1, hx1⟩ : ∃ x, A 35 p.toNat i.toNat = x := ⟨_, rfl⟩
  have rx1 : (-1) ≤ x1 ∧ x1 ≤ 5 := mrg hT hx1 rfl
  refine m_iald C e_q_neededAhead_7 rfl (by omega) (by decide) (by omega) (by show i < ((16 : Nat) : Int); omega) x1 hx1 ?_
  refine m_blk 9 [(0, vr 0 0), (1, vi p), (2, vi i), (3, vi w)] [vi (-1), vi x1] C f_q_neededAhead_8_1 rfl ?_
  refine m_icmp_ne (tgt := 16) C e_q_neededAhead_9 (by decide) (by omega) (by decide) (fun c2 => ?_) (fun c2 => ?_)
  · refine m_blk 18 [(0, vr 0 0), (1, vi p), (2, vi i), (3, vi w)] [vr 0 0, vi 1] C f_q_neededAhead_16_2 rfl ?_
    refine m_getr C e_q_neededAhead_18 fg_Mo_24 rfl (by decide) rfl ?_
    refine m_blk 22 [(0, vr 0 0), (1, vi p), (2, vi i), (3, vi w)] [vi p, vr 15 0, vi 1] C f_q_neededAhead_21_1 rfl ?_
    refine m_aald C p.toNat e_q_neededAhead_22 rfl rfl rfl (by decide) (by decide) (by omega) (by show p < ((6 : Nat) : Int); omega) (mz _ _) ?_
    refine m_blk 24 [(0, vr 0 0), (1, vi p), (2, vi i), (3, vi w)] [vi i, vr 35 p.toNat, vi 1] C f_q_neededAhead_23_1 rfl ?_
    refine m_iald C e_q_neededAhead_24 rfl (by omega) (by decide) (by omega) (by show i < ((16 : Nat) : Int); omega) x1 hx1 ?_
    refine m_blk 31 [(4, vi (iShl 1 x1)), (0, vr 0 0), (1, vi p), (2, vi i), (3, vi w)] [vr 0 0, vi p, vr 0 0] C f_q_neededAhead_25_5 rfl ?_
    refine m_getr C e_q_neededAhead_31 fg_Mo_36 rfl (by decide) rfl ?_
    refine m_blk 35 [(4, vi (iShl 1 x1)), (0, vr 0 0), (1, vi p), (2, vi i), (3, vi w)] [vi p, vr 19 0, vi p, vr 0 0] C f_q_neededAhead_34_1 rfl ?_
    refine m_aald C p.toNat e_q_neededAhead_35 rfl rfl rfl (by decide) (by decide) (by omega) (by show p < ((6 : Nat) : Int); omega) (mz _ _) ?_
    refine m_blk 37 [(4, vi (iShl 1 x1)), (0, vr 0 0), (1, vi p), (2, vi i), (3, vi w)] [vi i, vr 39 p.toNat, vi p, vr 0 0] C f_q_neededAhead_36_1 rfl ?_
    obtain ⟨x3, hx3⟩ : ∃ x, A 39 p.toNat i.toNat = x := ⟨_, rfl⟩
    have rx3 : (-1) ≤ x3 ∧ x3 ≤ 119 := mrg hT hx3 rfl
    refine m_iald C e_q_neededAhead_37 rfl (by omega) (by decide) (by omega) (by show i < ((16 : Nat) : Int); omega) x3 hx3 ?_
    refine m_callV C Rm Y [vi p, vi x3] [] ((q_namesIn_ 120) l D B H0 ad _ hT M p x3 hK.2.2.2.2 (by show 0 ≤ p ∧ p ≤ 5 ∧ M ≤ 120; omega) (by show -1 ≤ x3 ∧ x3 < M ∧ x3 < ((120 : Nat) : Int); omega)) cl_Mo_266 rfl (by decide) rfl rfl e_q_neededAhead_38 rfl rfl rfl ⟨by show _ ≤ (131 + 2 * n : Nat); omega, by show _ ≤ (3840 + 80 * n : Nat); omega⟩ ?_
    rintro v4 A5 ⟨z8, rfl, rfl, raw_hz_n7⟩
    have hz_n7 : -2147483648 ≤ z8 ∧ z8 ≤ 2147483647 := raw_hz_n7
    clear raw_hz_n7
    show JM g D ad w0 A 41 [(4, vi (iShl 1 x1)), (0, vr 0 0), (1, vi p), (2, vi i), (3, vi w)] [vi z8]
    refine m_blk 44 [(5, vi z8), (4, vi (iShl 1 x1)), (0, vr 0 0), (1, vi p), (2, vi i), (3, vi w)] [vr 0 0] C f_q_neededAhead_41_2 rfl ?_
    refine m_getr C e_q_neededAhead_44 fg_Mo_21 rfl (by decide) rfl ?_
    refine m_blk 48 [(5, vi z8), (4, vi (iShl 1 x1)), (0, vr 0 0), (1, vi p), (2, vi i), (3, vi w)] [vi p, vr 14 0] C f_q_neededAhead_47_1 rfl ?_
    refine m_aald C p.toNat e_q_neededAhead_48 rfl rfl rfl (by decide) (by decide) (by omega) (by show p < ((6 : Nat) : Int); omega) (mz _ _) ?_
    refine m_blk 50 [(5, vi z8), (4, vi (iShl 1 x1)), (0, vr 0 0), (1, vi p), (2, vi i), (3, vi w)] [vi i, vr 34 p.toNat] C f_q_neededAhead_49_1 rfl ?_
    obtain ⟨x9, hx9⟩ : ∃ x, A 34 p.toNat i.toNat = x := ⟨_, rfl⟩
    have rx9 : (-1) ≤ x9 ∧ x9 ≤ 255 := mrg hT hx9 rfl
    refine m_iald C e_q_neededAhead_50 rfl (by omega) (by decide) (by omega) (by show i < ((16 : Nat) : Int); omega) x9 hx9 ?_
    by_cases c10 : x9 = 0
    · refine m_tabIn (tgt := 84) C e_q_neededAhead_51 (by omega) (by omega) (by omega) (by rw [c10]; rfl) (by decide) ?_
      refine m_blk 90 [(5, vi z8), (4, vi (iShl 1 x1)), (0, vr 0 0), (1, vi p), (2, vi i), (3, vi w)] [vi (iAnd w (iXor (iShl 1 x1) (-1)))] C f_q_neededAhead_84_5 rfl ?_
      refine m_nrm (fun y11 hy11 => ?_)
      exact m_iret C Rm E e_q_neededAhead_90 ⟨y11, rfl, rfl, (by show -2147483648 ≤ y11 ∧ y11 ≤ 2147483647; omega)⟩
    by_cases c12 : x9 = 1
    · refine m_tabIn (tgt := 91) C e_q_neededAhead_51 (by omega) (by omega) (by omega) (by rw [c12]; rfl) (by decide) ?_
      refine m_blk 95 [(5, vi z8), (4, vi (iShl 1 x1)), (0, vr 0 0), (1, vi p), (2, vi i), (3, vi w)] [vi (iAnd w (iShl 1 x1))] C f_q_neededAhead_91_3 rfl ?_
      refine m_if_eq (tgt := 110) C e_q_neededAhead_95 (by decide) (iAnd_r _ _) (fun c13 => ?_) (fun c13 => ?_)
      · refine m_blk 111 [(5, vi z8), (4, vi (iShl 1 x1)), (0, vr 0 0), (1, vi p), (2, vi i), (3, vi w)] [vi w] C f_q_neededAhead_110_1 rfl ?_
        exact m_iret C Rm E e_q_neededAhead_111 ⟨w, rfl, rfl, (by show -2147483648 ≤ w ∧ w ≤ 2147483647; omega)⟩
      · refine m_blk 111 [(5, vi z8), (4, vi (iShl 1 x1)), (0, vr 0 0), (1, vi p), (2, vi i), (3, vi w)] [vi (iOr (iAnd w (iXor (iShl 1 x1) (-1))) z8)] C f_q_neededAhead_98_8 rfl ?_
        refine m_nrm (fun y14 hy14 => ?_)
        exact m_iret C Rm E e_q_neededAhead_111 ⟨y14, rfl, rfl, (by show -2147483648 ≤ y14 ∧ y14 ≤ 2147483647; omega)⟩
    by_cases c15 : x9 = 2
    · refine m_tabIn (tgt := 112) C e_q_neededAhead_51 (by omega) (by omega) (by omega) (by rw [c15]; rfl) (by decide) ?_
      refine m_blk 116 [(5, vi z8), (4, vi (iShl 1 x1)), (0, vr 0 0), (1, vi p), (2, vi i), (3, vi w)] [vi (iOr w z8)] C f_q_neededAhead_112_3 rfl ?_
      refine m_nrm (fun y16 hy16 => ?_)
      exact m_iret C Rm E e_q_neededAhead_116 ⟨y16, rfl, rfl, (by show -2147483648 ≤ y16 ∧ y16 ≤ 2147483647; omega)⟩
    by_cases c17 : x9 = 3
    · refine m_tabIn (tgt := 117) C e_q_neededAhead_51 (by omega) (by omega) (by omega) (by rw [c17]; rfl) (by decide) ?_
      refine m_blk 123 [(5, vi z8), (4, vi (iShl 1 x1)), (0, vr 0 0), (1, vi p), (2, vi i), (3, vi w)] [vr 0 0, vi (i + 1), vi p, vr 0 0] C f_q_neededAhead_117_6 rfl ?_
      refine m_getr C e_q_neededAhead_123 fg_Mo_33 rfl (by decide) rfl ?_
      refine m_blk 127 [(5, vi z8), (4, vi (iShl 1 x1)), (0, vr 0 0), (1, vi p), (2, vi i), (3, vi w)] [vi p, vr 18 0, vi (i + 1), vi p, vr 0 0] C f_q_neededAhead_126_1 rfl ?_
      refine m_aald C p.toNat e_q_neededAhead_127 rfl rfl rfl (by decide) (by decide) (by omega) (by show p < ((6 : Nat) : Int); omega) (mz _ _) ?_
      refine m_blk 129 [(5, vi z8), (4, vi (iShl 1 x1)), (0, vr 0 0), (1, vi p), (2, vi i), (3, vi w)] [vi i, vr 38 p.toNat, vi (i + 1), vi p, vr 0 0] C f_q_neededAhead_128_1 rfl ?_
      obtain ⟨x18, hx18⟩ : ∃ x, A 38 p.toNat i.toNat = x := ⟨_, rfl⟩
      have rx18 : 0 ≤ x18 ∧ x18 ≤ 16 := mrg hT hx18 rfl
      refine m_iald C e_q_neededAhead_129 rfl (by omega) (by decide) (by omega) (by show i < ((16 : Nat) : Int); omega) x18 hx18 ?_
      refine m_blk 131 [(5, vi z8), (4, vi (iShl 1 x1)), (0, vr 0 0), (1, vi p), (2, vi i), (3, vi w)] [vi w, vi x18, vi (i + 1), vi p, vr 0 0] C f_q_neededAhead_130_1 rfl ?_
      refine m_callV C Rm Y [vi p, vi (i + 1), vi x18, vi w] [] (hq9 l D B H0 ad _ hT N M Ln dep p (i + 1) x18 w (by show 0 ≤ p ∧ p ≤ 5; omega) hK ha (by show 0 ≤ (i + 1) ∧ (i + 1) ≤ 16 ∧ 0 ≤ x18 ∧ x18 ≤ N ∧ 17 - (i + 1) ≤ (n : Int); omega) (by show -2147483648 ≤ w ∧ w ≤ 2147483647; omega)) cl_Mo_300 rfl (by decide) rfl rfl e_q_neededAhead_131 rfl rfl rfl ⟨by show _ ≤ (131 + 2 * n : Nat); omega, by show _ ≤ (3840 + 80 * n : Nat); omega⟩ ?_
      rintro v19 A20 ⟨z23, rfl, rfl, raw_hz_n22⟩
      have hz_n22 : -2147483648 ≤ z23 ∧ z23 ≤ 2147483647 := raw_hz_n22
      clear raw_hz_n22
      show JM g D ad w0 A 134 [(5, vi z8), (4, vi (iShl 1 x1)), (0, vr 0 0), (1, vi p), (2, vi i), (3, vi w)] [vi z23]
      refine m_blk 137 [(5, vi z8), (4, vi (iShl 1 x1)), (0, vr 0 0), (1, vi p), (2, vi i), (3, vi w)] [vr 0 0, vi p, vr 0 0, vi z23] C f_q_neededAhead_134_3 rfl ?_
      refine m_getr C e_q_neededAhead_137 fg_Mo_33 rfl (by decide) rfl ?_
      refine m_blk 141 [(5, vi z8), (4, vi (iShl 1 x1)), (0, vr 0 0), (1, vi p), (2, vi i), (3, vi w)] [vi p, vr 18 0, vi p, vr 0 0, vi z23] C f_q_neededAhead_140_1 rfl ?_
      refine m_aald C p.toNat e_q_neededAhead_141 rfl rfl rfl (by decide) (by decide) (by omega) (by show p < ((6 : Nat) : Int); omega) (mz _ _) ?_
      refine m_blk 143 [(5, vi z8), (4, vi (iShl 1 x1)), (0, vr 0 0), (1, vi p), (2, vi i), (3, vi w)] [vi i, vr 38 p.toNat, vi p, vr 0 0, vi z23] C f_q_neededAhead_142_1 rfl ?_
      refine m_iald C e_q_neededAhead_143 rfl (by omega) (by decide) (by omega) (by show i < ((16 : Nat) : Int); omega) x18 hx18 ?_
      refine m_blk 145 [(5, vi z8), (4, vi (iShl 1 x1)), (0, vr 0 0), (1, vi p), (2, vi i), (3, vi w)] [vr 0 0, vi x18, vi p, vr 0 0, vi z23] C f_q_neededAhead_144_1 rfl ?_
      refine m_getr C e_q_neededAhead_145 fg_Mo_30 rfl (by decide) rfl ?_
      refine m_blk 149 [(5, vi z8), (4, vi (iShl 1 x1)), (0, vr 0 0), (1, vi p), (2, vi i), (3, vi w)] [vi p, vr 17 0, vi x18, vi p, vr 0 0, vi z23] C f_q_neededAhead_148_1 rfl ?_
      refine m_aald C p.toNat e_q_neededAhead_149 rfl rfl rfl (by decide) (by decide) (by omega) (by show p < ((6 : Nat) : Int); omega) (mz _ _) ?_
      refine m_blk 151 [(5, vi z8), (4, vi (iShl 1 x1)), (0, vr 0 0), (1, vi p), (2, vi i), (3, vi w)] [vi i, vr 37 p.toNat, vi x18, vi p, vr 0 0, vi z23] C f_q_neededAhead_150_1 rfl ?_
      obtain ⟨x24, hx24⟩ : ∃ x, A 37 p.toNat i.toNat = x := ⟨_, rfl⟩
      have rx24 : 0 ≤ x24 ∧ x24 ≤ 16 := mrg hT hx24 rfl
      refine m_iald C e_q_neededAhead_151 rfl (by omega) (by decide) (by omega) (by show i < ((16 : Nat) : Int); omega) x24 hx24 ?_
      refine m_blk 153 [(5, vi z8), (4, vi (iShl 1 x1)), (0, vr 0 0), (1, vi p), (2, vi i), (3, vi w)] [vi w, vi x24, vi x18, vi p, vr 0 0, vi z23] C f_q_neededAhead_152_1 rfl ?_
      refine m_callV C Rm Y [vi p, vi x18, vi x24, vi w] [vi z23] (hq9 l D B H0 ad _ hT N M Ln dep p x18 x24 w (by show 0 ≤ p ∧ p ≤ 5; omega) hK ha (by show 0 ≤ x18 ∧ x18 ≤ 16 ∧ 0 ≤ x24 ∧ x24 ≤ N ∧ 17 - x18 ≤ (n : Int); omega) (by show -2147483648 ≤ w ∧ w ≤ 2147483647; omega)) cl_Mo_300 rfl (by decide) rfl rfl e_q_neededAhead_153 rfl rfl rfl ⟨by show _ ≤ (131 + 2 * n : Nat); omega, by show _ ≤ (3840 + 80 * n : Nat); omega⟩ ?_
      rintro v25 A26 ⟨z29, rfl, rfl, raw_hz_n28⟩
      have hz_n28 : -2147483648 ≤ z29 ∧ z29 ≤ 2147483647 := raw_hz_n28
      clear raw_hz_n28
      show JM g D ad w0 A 156 [(5, vi z8), (4, vi (iShl 1 x1)), (0, vr 0 0), (1, vi p), (2, vi i), (3, vi w)] [vi z29, vi z23]
      refine m_blk 160 [(5, vi z8), (4, vi (iShl 1 x1)), (0, vr 0 0), (1, vi p), (2, vi i), (3, vi w)] [vi (iOr (iOr z23 z29) z8)] C f_q_neededAhead_156_3 rfl ?_
      refine m_nrm (fun y30 hy30 => ?_)
      exact m_iret C Rm E e_q_neededAhead_160 ⟨y30, rfl, rfl, (by show -2147483648 ≤ y30 ∧ y30 ≤ 2147483647; omega)⟩
    by_cases c31 : x9 = 4
    · refine m_tabIn (tgt := 161) C e_q_neededAhead_51 (by omega) (by omega) (by omega) (by rw [c31]; rfl) (by decide) ?_
      have f9 := hs9.k4 (by omega)
      refine m_blk 167 [(7, vi 0), (6, vi w), (5, vi z8), (4, vi (iShl 1 x1)), (0, vr 0 0), (1, vi p), (2, vi i), (3, vi w)] [] C f_q_neededAhead_161_4 rfl ?_
      have hd_167 : ∀ (NZ : Nat) (k : Int) (w2 : Int), 0 ≤ k ∧ k ≤ 10 → -2147483648 ≤ w2 ∧ w2 ≤ 2147483647 → (40 - k) < (NZ : Int) → JM g D ad w0 A 167 [(7, vi k), (6, vi w2), (0, vr 0 0), (1, vi p), (2, vi i)] [] := by
        intro NZ
        induction NZ with
        | zero => intro k w2 hk hw2 hm; exact absurd hm (by omega)
        | succ NZ ih =>
          intro k w2 hk hw2 hm
          refine m_blk 170 [(7, vi k), (6, vi w2), (0, vr 0 0), (1, vi p), (2, vi i)] [vr 0 0, vi k] C f_q_neededAhead_167_2 rfl ?_
          refine m_getr C e_q_neededAhead_170 fg_Mo_27 rfl (by decide) rfl ?_
          refine m_blk 174 [(7, vi k), (6, vi w2), (0, vr 0 0), (1, vi p), (2, vi i)] [vi p, vr 16 0, vi k] C f_q_neededAhead_173_1 rfl ?_
          refine m_aald C p.toNat e_q_neededAhead_174 rfl rfl rfl (by decide) (by decide) (by omega) (by show p < ((6 : Nat) : Int); omega) (mz _ _) ?_
          refine m_blk 176 [(7, vi k), (6, vi w2), (0, vr 0 0), (1, vi p), (2, vi i)] [vi i, vr 36 p.toNat, vi k] C f_q_neededAhead_175_1 rfl ?_
          obtain ⟨x32, hx32⟩ : ∃ x, A 36 p.toNat i.toNat = x := ⟨_, rfl⟩
          have rx32 : (-1) ≤ x32 ∧ x32 ≤ 9 := mrg hT hx32 rfl
          refine m_iald C e_q_neededAhead_176 rfl (by omega) (by decide) (by omega) (by show i < ((16 : Nat) : Int); omega) x32 hx32 ?_
          refine m_icmp_ge (tgt := 206) C e_q_neededAhead_177 (by decide) (by omega) (by omega) (fun c33 => ?_) (fun c33 => ?_)
          · refine m_blk 208 [(7, vi k), (6, vi w2), (0, vr 0 0), (1, vi p), (2, vi i)] [vi w2] C f_q_neededAhead_206_1 rfl ?_
            exact m_iret C Rm E e_q_neededAhead_208 ⟨w2, rfl, rfl, (by show -2147483648 ≤ w2 ∧ w2 ≤ 2147483647; omega)⟩
          · refine m_blk 186 [(7, vi k), (6, vi w2), (0, vr 0 0), (1, vi p), (2, vi i)] [vr 0 0, vi (i + 1), vi p, vr 0 0] C f_q_neededAhead_180_6 rfl ?_
            refine m_getr C e_q_neededAhead_186 fg_Mo_30 rfl (by decide) rfl ?_
            refine m_blk 190 [(7, vi k), (6, vi w2), (0, vr 0 0), (1, vi p), (2, vi i)] [vi p, vr 17 0, vi (i + 1), vi p, vr 0 0] C f_q_neededAhead_189_1 rfl ?_
            refine m_aald C p.toNat e_q_neededAhead_190 rfl rfl rfl (by decide) (by decide) (by omega) (by show p < ((6 : Nat) : Int); omega) (mz _ _) ?_
            refine m_blk 192 [(7, vi k), (6, vi w2), (0, vr 0 0), (1, vi p), (2, vi i)] [vi i, vr 37 p.toNat, vi (i + 1), vi p, vr 0 0] C f_q_neededAhead_191_1 rfl ?_
            obtain ⟨x34, hx34⟩ : ∃ x, A 37 p.toNat i.toNat = x := ⟨_, rfl⟩
            have rx34 : 0 ≤ x34 ∧ x34 ≤ 16 := mrg hT hx34 rfl
            refine m_iald C e_q_neededAhead_192 rfl (by omega) (by decide) (by omega) (by show i < ((16 : Nat) : Int); omega) x34 hx34 ?_
            refine m_blk 195 [(7, vi k), (6, vi w2), (0, vr 0 0), (1, vi p), (2, vi i)] [vi w2, vi x34, vi (i + 1), vi p, vr 0 0] C f_q_neededAhead_193_1 rfl ?_
            refine m_callV C Rm Y [vi p, vi (i + 1), vi x34, vi w2] [] (hq9 l D B H0 ad _ hT N M Ln dep p (i + 1) x34 w2 (by show 0 ≤ p ∧ p ≤ 5; omega) hK ha (by show 0 ≤ (i + 1) ∧ (i + 1) ≤ 16 ∧ 0 ≤ x34 ∧ x34 ≤ N ∧ 17 - (i + 1) ≤ (n : Int); omega) (by show -2147483648 ≤ w2 ∧ w2 ≤ 2147483647; omega)) cl_Mo_300 rfl (by decide) rfl rfl e_q_neededAhead_195 rfl rfl rfl ⟨by show _ ≤ (131 + 2 * n : Nat); omega, by show _ ≤ (3840 + 80 * n : Nat); omega⟩ ?_
            rintro v35 A36 ⟨z39, rfl, rfl, raw_hz_n38⟩
            have hz_n38 : -2147483648 ≤ z39 ∧ z39 ≤ 2147483647 := raw_hz_n38
            clear raw_hz_n38
            show JM g D ad w0 A 198 [(7, vi k), (6, vi w2), (0, vr 0 0), (1, vi p), (2, vi i)] [vi z39]
            refine m_blk 167 [(7, vi (k + 1)), (6, vi z39), (0, vr 0 0), (1, vi p), (2, vi i)] [] C f_q_neededAhead_198_3 rfl ?_
            refine m_loc [(7, vi (k + 1)), (6, vi z39), (0, vr 0 0), (1, vi p), (2, vi i)] ⟨rfl, rfl, rfl, rfl, rfl, trivial⟩ ?_
            exact ih (k + 1) z39 (by show 0 ≤ (k + 1) ∧ (k + 1) ≤ 10; omega) (by show -2147483648 ≤ z39 ∧ z39 ≤ 2147483647; omega) (by have hm9 := hm; show (40 - (k + 1)) < _; omega)
      refine m_loc [(7, vi 0), (6, vi w), (0, vr 0 0), (1, vi p), (2, vi i)] ⟨rfl, rfl, rfl, rfl, rfl, trivial⟩ ?_
      exact hd_167 (Int.toNat ((40 - 0)) + 1) 0 w (by show 0 ≤ 0 ∧ 0 ≤ 10; omega) (by show -2147483648 ≤ w ∧ w ≤ 2147483647; omega) (by show (40 - 0) < _; omega)
    refine m_tabOut (tgt := 209) C e_q_neededAhead_51 (by omega) (by omega) (by decide) ?_
    have f9 := hs9.k5 (by omega)
    refine m_blk 213 [(5, vi z8), (4, vi (iShl 1 x1)), (0, vr 0 0), (1, vi p), (2, vi i), (3, vi w)] [vi (iAnd w (iShl 1 x1))] C f_q_neededAhead_209_3 rfl ?_
    refine m_if_ne (tgt := 231) C e_q_neededAhead_213 (by decide) (iAnd_r _ _) (fun c40 => ?_) (fun c40 => ?_)
    · refine m_blk 244 [(5, vi z8), (4, vi (iShl 1 x1)), (0, vr 0 0), (1, vi p), (2, vi i), (3, vi w)] [vi (iOr (iAnd w (iXor (iShl 1 x1) (-1))) z8)] C f_q_neededAhead_231_8 rfl ?_
      refine m_nrm (fun y41 hy41 => ?_)
      exact m_iret C Rm E e_q_neededAhead_244 ⟨y41, rfl, rfl, (by show -2147483648 ≤ y41 ∧ y41 ≤ 2147483647; omega)⟩
    · refine m_blk 218 [(5, vi z8), (4, vi (iShl 1 x1)), (0, vr 0 0), (1, vi p), (2, vi i), (3, vi w)] [vr 0 0, vr 0 0] C f_q_neededAhead_216_2 rfl ?_
      refine m_getr C e_q_neededAhead_218 fg_Mo_27 rfl (by decide) rfl ?_
      refine m_blk 222 [(5, vi z8), (4, vi (iShl 1 x1)), (0, vr 0 0), (1, vi p), (2, vi i), (3, vi w)] [vi p, vr 16 0, vr 0 0] C f_q_neededAhead_221_1 rfl ?_
      refine m_aald C p.toNat e_q_neededAhead_222 rfl rfl rfl (by decide) (by decide) (by omega) (by show p < ((6 : Nat) : Int); omega) (mz _ _) ?_
      refine m_blk 224 [(5, vi z8), (4, vi (iShl 1 x1)), (0, vr 0 0), (1, vi p), (2, vi i), (3, vi w)] [vi i, vr 36 p.toNat, vr 0 0] C f_q_neededAhead_223_1 rfl ?_
      obtain ⟨x42, hx42⟩ : ∃ x, A 36 p.toNat i.toNat = x := ⟨_, rfl⟩
      have rx42 : (-1) ≤ x42 ∧ x42 ≤ 9 := mrg hT hx42 rfl
      refine m_iald C e_q_neededAhead_224 rfl (by omega) (by decide) (by omega) (by show i < ((16 : Nat) : Int); omega) x42 hx42 ?_
      refine m_callV C Rm Y [vi x42] [] ((q_sees_ 6) l D B H0 ad _ hT x42 (ha.le (by omega)) (by show 0 ≤ x42 ∧ x42 ≤ 5 ∧ x42 < ((6 : Nat) : Int); omega)) cl_Mo_303 rfl (by decide) rfl rfl e_q_neededAhead_225 rfl rfl rfl ⟨by show _ ≤ (131 + 2 * n : Nat); omega, by show _ ≤ (3840 + 80 * n : Nat); omega⟩ ?_
      rintro v43 A44 ⟨z47, rfl, rfl, raw_hz_n46⟩
      have hz_n46 : z47 = 0 ∨ z47 = 1 := raw_hz_n46
      clear raw_hz_n46
      show JM g D ad w0 A 228 [(5, vi z8), (4, vi (iShl 1 x1)), (0, vr 0 0), (1, vi p), (2, vi i), (3, vi w)] [vi z47]
      refine m_if_eq (tgt := 243) C e_q_neededAhead_228 (by decide) (by omega) (fun c48 => ?_) (fun c48 => ?_)
      · refine m_blk 244 [(5, vi z8), (4, vi (iShl 1 x1)), (0, vr 0 0), (1, vi p), (2, vi i), (3, vi w)] [vi w] C f_q_neededAhead_243_1 rfl ?_
        exact m_iret C Rm E e_q_neededAhead_244 ⟨w, rfl, rfl, (by show -2147483648 ≤ w ∧ w ≤ 2147483647; omega)⟩
      · refine m_blk 244 [(5, vi z8), (4, vi (iShl 1 x1)), (0, vr 0 0), (1, vi p), (2, vi i), (3, vi w)] [vi (iOr (iAnd w (iXor (iShl 1 x1) (-1))) z8)] C f_q_neededAhead_231_8 rfl ?_
        refine m_nrm (fun y49 hy49 => ?_)
        exact m_iret C Rm E e_q_neededAhead_244 ⟨y49, rfl, rfl, (by show -2147483648 ≤ y49 ∧ y49 ≤ 2147483647; omega)⟩
  · refine m_blk 26 [(0, vr 0 0), (1, vi p), (2, vi i), (3, vi w)] [vi 0] C f_q_neededAhead_12_2 rfl ?_
    refine m_blk 31 [(4, vi 0), (0, vr 0 0), (1, vi p), (2, vi i), (3, vi w)] [vr 0 0, vi p, vr 0 0] C f_q_neededAhead_26_4 rfl ?_
    refine m_getr C e_q_neededAhead_31 fg_Mo_36 rfl (by decide) rfl ?_
    refine m_blk 35 [(4, vi 0), (0, vr 0 0), (1, vi p), (2, vi i), (3, vi w)] [vi p, vr 19 0, vi p, vr 0 0] C f_q_neededAhead_34_1 rfl ?_
    refine m_aald C p.toNat e_q_neededAhead_35 rfl rfl rfl (by decide) (by decide) (by omega) (by show p < ((6 : Nat) : Int); omega) (mz _ _) ?_
    refine m_blk 37 [(4, vi 0), (0, vr 0 0), (1, vi p), (2, vi i), (3, vi w)] [vi i, vr 39 p.toNat, vi p, vr 0 0] C f_q_neededAhead_36_1 rfl ?_
    obtain ⟨x50, hx50⟩ : ∃ x, A 39 p.toNat i.toNat = x := ⟨_, rfl⟩
    have rx50 : (-1) ≤ x50 ∧ x50 ≤ 119 := mrg hT hx50 rfl
    refine m_iald C e_q_neededAhead_37 rfl (by omega) (by decide) (by omega) (by show i < ((16 : Nat) : Int); omega) x50 hx50 ?_
    refine m_callV C Rm Y [vi p, vi x50] [] ((q_namesIn_ 120) l D B H0 ad _ hT M p x50 hK.2.2.2.2 (by show 0 ≤ p ∧ p ≤ 5 ∧ M ≤ 120; omega) (by show -1 ≤ x50 ∧ x50 < M ∧ x50 < ((120 : Nat) : Int); omega)) cl_Mo_266 rfl (by decide) rfl rfl e_q_neededAhead_38 rfl rfl rfl ⟨by show _ ≤ (131 + 2 * n : Nat); omega, by show _ ≤ (3840 + 80 * n : Nat); omega⟩ ?_
    rintro v51 A52 ⟨z55, rfl, rfl, raw_hz_n54⟩
    have hz_n54 : -2147483648 ≤ z55 ∧ z55 ≤ 2147483647 := raw_hz_n54
    clear raw_hz_n54
    show JM g D ad w0 A 41 [(4, vi 0), (0, vr 0 0), (1, vi p), (2, vi i), (3, vi w)] [vi z55]
    refine m_blk 44 [(5, vi z55), (4, vi 0), (0, vr 0 0), (1, vi p), (2, vi i), (3, vi w)] [vr 0 0] C f_q_neededAhead_41_2 rfl ?_
    refine m_getr C e_q_neededAhead_44 fg_Mo_21 rfl (by decide) rfl ?_
    refine m_blk 48 [(5, vi z55), (4, vi 0), (0, vr 0 0), (1, vi p), (2, vi i), (3, vi w)] [vi p, vr 14 0] C f_q_neededAhead_47_1 rfl ?_
    refine m_aald C p.toNat e_q_neededAhead_48 rfl rfl rfl (by decide) (by decide) (by omega) (by show p < ((6 : Nat) : Int); omega) (mz _ _) ?_
    refine m_blk 50 [(5, vi z55), (4, vi 0), (0, vr 0 0), (1, vi p), (2, vi i), (3, vi w)] [vi i, vr 34 p.toNat] C f_q_neededAhead_49_1 rfl ?_
    obtain ⟨x56, hx56⟩ : ∃ x, A 34 p.toNat i.toNat = x := ⟨_, rfl⟩
    have rx56 : (-1) ≤ x56 ∧ x56 ≤ 255 := mrg hT hx56 rfl
    refine m_iald C e_q_neededAhead_50 rfl (by omega) (by decide) (by omega) (by show i < ((16 : Nat) : Int); omega) x56 hx56 ?_
    by_cases c57 : x56 = 0
    · refine m_tabIn (tgt := 84) C e_q_neededAhead_51 (by omega) (by omega) (by omega) (by rw [c57]; rfl) (by decide) ?_
      refine m_blk 90 [(5, vi z55), (4, vi 0), (0, vr 0 0), (1, vi p), (2, vi i), (3, vi w)] [vi (iAnd w (iXor 0 (-1)))] C f_q_neededAhead_84_5 rfl ?_
      refine m_nrm (fun y58 hy58 => ?_)
      exact m_iret C Rm E e_q_neededAhead_90 ⟨y58, rfl, rfl, (by show -2147483648 ≤ y58 ∧ y58 ≤ 2147483647; omega)⟩
    by_cases c59 : x56 = 1
    · refine m_tabIn (tgt := 91) C e_q_neededAhead_51 (by omega) (by omega) (by omega) (by rw [c59]; rfl) (by decide) ?_
      refine m_blk 95 [(5, vi z55), (4, vi 0), (0, vr 0 0), (1, vi p), (2, vi i), (3, vi w)] [vi (iAnd w 0)] C f_q_neededAhead_91_3 rfl ?_
      refine m_if_eq (tgt := 110) C e_q_neededAhead_95 (by decide) (iAnd_r _ _) (fun c60 => ?_) (fun c60 => ?_)
      · refine m_blk 111 [(5, vi z55), (4, vi 0), (0, vr 0 0), (1, vi p), (2, vi i), (3, vi w)] [vi w] C f_q_neededAhead_110_1 rfl ?_
        exact m_iret C Rm E e_q_neededAhead_111 ⟨w, rfl, rfl, (by show -2147483648 ≤ w ∧ w ≤ 2147483647; omega)⟩
      · refine m_blk 111 [(5, vi z55), (4, vi 0), (0, vr 0 0), (1, vi p), (2, vi i), (3, vi w)] [vi (iOr (iAnd w (iXor 0 (-1))) z55)] C f_q_neededAhead_98_8 rfl ?_
        refine m_nrm (fun y61 hy61 => ?_)
        exact m_iret C Rm E e_q_neededAhead_111 ⟨y61, rfl, rfl, (by show -2147483648 ≤ y61 ∧ y61 ≤ 2147483647; omega)⟩
    by_cases c62 : x56 = 2
    · refine m_tabIn (tgt := 112) C e_q_neededAhead_51 (by omega) (by omega) (by omega) (by rw [c62]; rfl) (by decide) ?_
      refine m_blk 116 [(5, vi z55), (4, vi 0), (0, vr 0 0), (1, vi p), (2, vi i), (3, vi w)] [vi (iOr w z55)] C f_q_neededAhead_112_3 rfl ?_
      refine m_nrm (fun y63 hy63 => ?_)
      exact m_iret C Rm E e_q_neededAhead_116 ⟨y63, rfl, rfl, (by show -2147483648 ≤ y63 ∧ y63 ≤ 2147483647; omega)⟩
    by_cases c64 : x56 = 3
    · refine m_tabIn (tgt := 117) C e_q_neededAhead_51 (by omega) (by omega) (by omega) (by rw [c64]; rfl) (by decide) ?_
      refine m_blk 123 [(5, vi z55), (4, vi 0), (0, vr 0 0), (1, vi p), (2, vi i), (3, vi w)] [vr 0 0, vi (i + 1), vi p, vr 0 0] C f_q_neededAhead_117_6 rfl ?_
      refine m_getr C e_q_neededAhead_123 fg_Mo_33 rfl (by decide) rfl ?_
      refine m_blk 127 [(5, vi z55), (4, vi 0), (0, vr 0 0), (1, vi p), (2, vi i), (3, vi w)] [vi p, vr 18 0, vi (i + 1), vi p, vr 0 0] C f_q_neededAhead_126_1 rfl ?_
      refine m_aald C p.toNat e_q_neededAhead_127 rfl rfl rfl (by decide) (by decide) (by omega) (by show p < ((6 : Nat) : Int); omega) (mz _ _) ?_
      refine m_blk 129 [(5, vi z55), (4, vi 0), (0, vr 0 0), (1, vi p), (2, vi i), (3, vi w)] [vi i, vr 38 p.toNat, vi (i + 1), vi p, vr 0 0] C f_q_neededAhead_128_1 rfl ?_
      obtain ⟨x65, hx65⟩ : ∃ x, A 38 p.toNat i.toNat = x := ⟨_, rfl⟩
      have rx65 : 0 ≤ x65 ∧ x65 ≤ 16 := mrg hT hx65 rfl
      refine m_iald C e_q_neededAhead_129 rfl (by omega) (by decide) (by omega) (by show i < ((16 : Nat) : Int); omega) x65 hx65 ?_
      refine m_blk 131 [(5, vi z55), (4, vi 0), (0, vr 0 0), (1, vi p), (2, vi i), (3, vi w)] [vi w, vi x65, vi (i + 1), vi p, vr 0 0] C f_q_neededAhead_130_1 rfl ?_
      refine m_callV C Rm Y [vi p, vi (i + 1), vi x65, vi w] [] (hq9 l D B H0 ad _ hT N M Ln dep p (i + 1) x65 w (by show 0 ≤ p ∧ p ≤ 5; omega) hK ha (by show 0 ≤ (i + 1) ∧ (i + 1) ≤ 16 ∧ 0 ≤ x65 ∧ x65 ≤ N ∧ 17 - (i + 1) ≤ (n : Int); omega) (by show -2147483648 ≤ w ∧ w ≤ 2147483647; omega)) cl_Mo_300 rfl (by decide) rfl rfl e_q_neededAhead_131 rfl rfl rfl ⟨by show _ ≤ (131 + 2 * n : Nat); omega, by show _ ≤ (3840 + 80 * n : Nat); omega⟩ ?_
      rintro v66 A67 ⟨z70, rfl, rfl, raw_hz_n69⟩
      have hz_n69 : -2147483648 ≤ z70 ∧ z70 ≤ 2147483647 := raw_hz_n69
      clear raw_hz_n69
      show JM g D ad w0 A 134 [(5, vi z55), (4, vi 0), (0, vr 0 0), (1, vi p), (2, vi i), (3, vi w)] [vi z70]
      refine m_blk 137 [(5, vi z55), (4, vi 0), (0, vr 0 0), (1, vi p), (2, vi i), (3, vi w)] [vr 0 0, vi p, vr 0 0, vi z70] C f_q_neededAhead_134_3 rfl ?_
      refine m_getr C e_q_neededAhead_137 fg_Mo_33 rfl (by decide) rfl ?_
      refine m_blk 141 [(5, vi z55), (4, vi 0), (0, vr 0 0), (1, vi p), (2, vi i), (3, vi w)] [vi p, vr 18 0, vi p, vr 0 0, vi z70] C f_q_neededAhead_140_1 rfl ?_
      refine m_aald C p.toNat e_q_neededAhead_141 rfl rfl rfl (by decide) (by decide) (by omega) (by show p < ((6 : Nat) : Int); omega) (mz _ _) ?_
      refine m_blk 143 [(5, vi z55), (4, vi 0), (0, vr 0 0), (1, vi p), (2, vi i), (3, vi w)] [vi i, vr 38 p.toNat, vi p, vr 0 0, vi z70] C f_q_neededAhead_142_1 rfl ?_
      refine m_iald C e_q_neededAhead_143 rfl (by omega) (by decide) (by omega) (by show i < ((16 : Nat) : Int); omega) x65 hx65 ?_
      refine m_blk 145 [(5, vi z55), (4, vi 0), (0, vr 0 0), (1, vi p), (2, vi i), (3, vi w)] [vr 0 0, vi x65, vi p, vr 0 0, vi z70] C f_q_neededAhead_144_1 rfl ?_
      refine m_getr C e_q_neededAhead_145 fg_Mo_30 rfl (by decide) rfl ?_
      refine m_blk 149 [(5, vi z55), (4, vi 0), (0, vr 0 0), (1, vi p), (2, vi i), (3, vi w)] [vi p, vr 17 0, vi x65, vi p, vr 0 0, vi z70] C f_q_neededAhead_148_1 rfl ?_
      refine m_aald C p.toNat e_q_neededAhead_149 rfl rfl rfl (by decide) (by decide) (by omega) (by show p < ((6 : Nat) : Int); omega) (mz _ _) ?_
      refine m_blk 151 [(5, vi z55), (4, vi 0), (0, vr 0 0), (1, vi p), (2, vi i), (3, vi w)] [vi i, vr 37 p.toNat, vi x65, vi p, vr 0 0, vi z70] C f_q_neededAhead_150_1 rfl ?_
      obtain ⟨x71, hx71⟩ : ∃ x, A 37 p.toNat i.toNat = x := ⟨_, rfl⟩
      have rx71 : 0 ≤ x71 ∧ x71 ≤ 16 := mrg hT hx71 rfl
      refine m_iald C e_q_neededAhead_151 rfl (by omega) (by decide) (by omega) (by show i < ((16 : Nat) : Int); omega) x71 hx71 ?_
      refine m_blk 153 [(5, vi z55), (4, vi 0), (0, vr 0 0), (1, vi p), (2, vi i), (3, vi w)] [vi w, vi x71, vi x65, vi p, vr 0 0, vi z70] C f_q_neededAhead_152_1 rfl ?_
      refine m_callV C Rm Y [vi p, vi x65, vi x71, vi w] [vi z70] (hq9 l D B H0 ad _ hT N M Ln dep p x65 x71 w (by show 0 ≤ p ∧ p ≤ 5; omega) hK ha (by show 0 ≤ x65 ∧ x65 ≤ 16 ∧ 0 ≤ x71 ∧ x71 ≤ N ∧ 17 - x65 ≤ (n : Int); omega) (by show -2147483648 ≤ w ∧ w ≤ 2147483647; omega)) cl_Mo_300 rfl (by decide) rfl rfl e_q_neededAhead_153 rfl rfl rfl ⟨by show _ ≤ (131 + 2 * n : Nat); omega, by show _ ≤ (3840 + 80 * n : Nat); omega⟩ ?_
      rintro v72 A73 ⟨z76, rfl, rfl, raw_hz_n75⟩
      have hz_n75 : -2147483648 ≤ z76 ∧ z76 ≤ 2147483647 := raw_hz_n75
      clear raw_hz_n75
      show JM g D ad w0 A 156 [(5, vi z55), (4, vi 0), (0, vr 0 0), (1, vi p), (2, vi i), (3, vi w)] [vi z76, vi z70]
      refine m_blk 160 [(5, vi z55), (4, vi 0), (0, vr 0 0), (1, vi p), (2, vi i), (3, vi w)] [vi (iOr (iOr z70 z76) z55)] C f_q_neededAhead_156_3 rfl ?_
      refine m_nrm (fun y77 hy77 => ?_)
      exact m_iret C Rm E e_q_neededAhead_160 ⟨y77, rfl, rfl, (by show -2147483648 ≤ y77 ∧ y77 ≤ 2147483647; omega)⟩
    by_cases c78 : x56 = 4
    · refine m_tabIn (tgt := 161) C e_q_neededAhead_51 (by omega) (by omega) (by omega) (by rw [c78]; rfl) (by decide) ?_
      have f9 := hs9.k4 (by omega)
      refine m_blk 167 [(7, vi 0), (6, vi w), (5, vi z55), (4, vi 0), (0, vr 0 0), (1, vi p), (2, vi i), (3, vi w)] [] C f_q_neededAhead_161_4 rfl ?_
      have hd_167 : ∀ (NZ : Nat) (k : Int) (w2 : Int), 0 ≤ k ∧ k ≤ 10 → -2147483648 ≤ w2 ∧ w2 ≤ 2147483647 → (40 - k) < (NZ : Int) → JM g D ad w0 A 167 [(7, vi k), (6, vi w2), (0, vr 0 0), (1, vi p), (2, vi i)] [] := by
        intro NZ
        induction NZ with
        | zero => intro k w2 hk hw2 hm; exact absurd hm (by omega)
        | succ NZ ih =>
          intro k w2 hk hw2 hm
          refine m_blk 170 [(7, vi k), (6, vi w2), (0, vr 0 0), (1, vi p), (2, vi i)] [vr 0 0, vi k] C f_q_neededAhead_167_2 rfl ?_
          refine m_getr C e_q_neededAhead_170 fg_Mo_27 rfl (by decide) rfl ?_
          refine m_blk 174 [(7, vi k), (6, vi w2), (0, vr 0 0), (1, vi p), (2, vi i)] [vi p, vr 16 0, vi k] C f_q_neededAhead_173_1 rfl ?_
          refine m_aald C p.toNat e_q_neededAhead_174 rfl rfl rfl (by decide) (by decide) (by omega) (by show p < ((6 : Nat) : Int); omega) (mz _ _) ?_
          refine m_blk 176 [(7, vi k), (6, vi w2), (0, vr 0 0), (1, vi p), (2, vi i)] [vi i, vr 36 p.toNat, vi k] C f_q_neededAhead_175_1 rfl ?_
          obtain ⟨x79, hx79⟩ : ∃ x, A 36 p.toNat i.toNat = x := ⟨_, rfl⟩
          have rx79 : (-1) ≤ x79 ∧ x79 ≤ 9 := mrg hT hx79 rfl
          refine m_iald C e_q_neededAhead_176 rfl (by omega) (by decide) (by omega) (by show i < ((16 : Nat) : Int); omega) x79 hx79 ?_
          refine m_icmp_ge (tgt := 206) C e_q_neededAhead_177 (by decide) (by omega) (by omega) (fun c80 => ?_) (fun c80 => ?_)
          · refine m_blk 208 [(7, vi k), (6, vi w2), (0, vr 0 0), (1, vi p), (2, vi i)] [vi w2] C f_q_neededAhead_206_1 rfl ?_
            exact m_iret C Rm E e_q_neededAhead_208 ⟨w2, rfl, rfl, (by show -2147483648 ≤ w2 ∧ w2 ≤ 2147483647; omega)⟩
          · refine m_blk 186 [(7, vi k), (6, vi w2), (0, vr 0 0), (1, vi p), (2, vi i)] [vr 0 0, vi (i + 1), vi p, vr 0 0] C f_q_neededAhead_180_6 rfl ?_
            refine m_getr C e_q_neededAhead_186 fg_Mo_30 rfl (by decide) rfl ?_
            refine m_blk 190 [(7, vi k), (6, vi w2), (0, vr 0 0), (1, vi p), (2, vi i)] [vi p, vr 17 0, vi (i + 1), vi p, vr 0 0] C f_q_neededAhead_189_1 rfl ?_
            refine m_aald C p.toNat e_q_neededAhead_190 rfl rfl rfl (by decide) (by decide) (by omega) (by show p < ((6 : Nat) : Int); omega) (mz _ _) ?_
            refine m_blk 192 [(7, vi k), (6, vi w2), (0, vr 0 0), (1, vi p), (2, vi i)] [vi i, vr 37 p.toNat, vi (i + 1), vi p, vr 0 0] C f_q_neededAhead_191_1 rfl ?_
            obtain ⟨x81, hx81⟩ : ∃ x, A 37 p.toNat i.toNat = x := ⟨_, rfl⟩
            have rx81 : 0 ≤ x81 ∧ x81 ≤ 16 := mrg hT hx81 rfl
            refine m_iald C e_q_neededAhead_192 rfl (by omega) (by decide) (by omega) (by show i < ((16 : Nat) : Int); omega) x81 hx81 ?_
            refine m_blk 195 [(7, vi k), (6, vi w2), (0, vr 0 0), (1, vi p), (2, vi i)] [vi w2, vi x81, vi (i + 1), vi p, vr 0 0] C f_q_neededAhead_193_1 rfl ?_
            refine m_callV C Rm Y [vi p, vi (i + 1), vi x81, vi w2] [] (hq9 l D B H0 ad _ hT N M Ln dep p (i + 1) x81 w2 (by show 0 ≤ p ∧ p ≤ 5; omega) hK ha (by show 0 ≤ (i + 1) ∧ (i + 1) ≤ 16 ∧ 0 ≤ x81 ∧ x81 ≤ N ∧ 17 - (i + 1) ≤ (n : Int); omega) (by show -2147483648 ≤ w2 ∧ w2 ≤ 2147483647; omega)) cl_Mo_300 rfl (by decide) rfl rfl e_q_neededAhead_195 rfl rfl rfl ⟨by show _ ≤ (131 + 2 * n : Nat); omega, by show _ ≤ (3840 + 80 * n : Nat); omega⟩ ?_
            rintro v82 A83 ⟨z86, rfl, rfl, raw_hz_n85⟩
            have hz_n85 : -2147483648 ≤ z86 ∧ z86 ≤ 2147483647 := raw_hz_n85
            clear raw_hz_n85
            show JM g D ad w0 A 198 [(7, vi k), (6, vi w2), (0, vr 0 0), (1, vi p), (2, vi i)] [vi z86]
            refine m_blk 167 [(7, vi (k + 1)), (6, vi z86), (0, vr 0 0), (1, vi p), (2, vi i)] [] C f_q_neededAhead_198_3 rfl ?_
            refine m_loc [(7, vi (k + 1)), (6, vi z86), (0, vr 0 0), (1, vi p), (2, vi i)] ⟨rfl, rfl, rfl, rfl, rfl, trivial⟩ ?_
            exact ih (k + 1) z86 (by show 0 ≤ (k + 1) ∧ (k + 1) ≤ 10; omega) (by show -2147483648 ≤ z86 ∧ z86 ≤ 2147483647; omega) (by have hm9 := hm; show (40 - (k + 1)) < _; omega)
      refine m_loc [(7, vi 0), (6, vi w), (0, vr 0 0), (1, vi p), (2, vi i)] ⟨rfl, rfl, rfl, rfl, rfl, trivial⟩ ?_
      exact hd_167 (Int.toNat ((40 - 0)) + 1) 0 w (by show 0 ≤ 0 ∧ 0 ≤ 10; omega) (by show -2147483648 ≤ w ∧ w ≤ 2147483647; omega) (by show (40 - 0) < _; omega)
    refine m_tabOut (tgt := 209) C e_q_neededAhead_51 (by omega) (by omega) (by decide) ?_
    have f9 := hs9.k5 (by omega)
    refine m_blk 213 [(5, vi z55), (4, vi 0), (0, vr 0 0), (1, vi p), (2, vi i), (3, vi w)] [vi (iAnd w 0)] C f_q_neededAhead_209_3 rfl ?_
    refine m_if_ne (tgt := 231) C e_q_neededAhead_213 (by decide) (iAnd_r _ _) (fun c87 => ?_) (fun c87 => ?_)
    · refine m_blk 244 [(5, vi z55), (4, vi 0), (0, vr 0 0), (1, vi p), (2, vi i), (3, vi w)] [vi (iOr (iAnd w (iXor 0 (-1))) z55)] C f_q_neededAhead_231_8 rfl ?_
      refine m_nrm (fun y88 hy88 => ?_)
      exact m_iret C Rm E e_q_neededAhead_244 ⟨y88, rfl, rfl, (by show -2147483648 ≤ y88 ∧ y88 ≤ 2147483647; omega)⟩
    · refine m_blk 218 [(5, vi z55), (4, vi 0), (0, vr 0 0), (1, vi p), (2, vi i), (3, vi w)] [vr 0 0, vr 0 0] C f_q_neededAhead_216_2 rfl ?_
      refine m_getr C e_q_neededAhead_218 fg_Mo_27 rfl (by decide) rfl ?_
      refine m_blk 222 [(5, vi z55), (4, vi 0), (0, vr 0 0), (1, vi p), (2, vi i), (3, vi w)] [vi p, vr 16 0, vr 0 0] C f_q_neededAhead_221_1 rfl ?_
      refine m_aald C p.toNat e_q_neededAhead_222 rfl rfl rfl (by decide) (by decide) (by omega) (by show p < ((6 : Nat) : Int); omega) (mz _ _) ?_
      refine m_blk 224 [(5, vi z55), (4, vi 0), (0, vr 0 0), (1, vi p), (2, vi i), (3, vi w)] [vi i, vr 36 p.toNat, vr 0 0] C f_q_neededAhead_223_1 rfl ?_
      obtain ⟨x89, hx89⟩ : ∃ x, A 36 p.toNat i.toNat = x := ⟨_, rfl⟩
      have rx89 : (-1) ≤ x89 ∧ x89 ≤ 9 := mrg hT hx89 rfl
      refine m_iald C e_q_neededAhead_224 rfl (by omega) (by decide) (by omega) (by show i < ((16 : Nat) : Int); omega) x89 hx89 ?_
      refine m_callV C Rm Y [vi x89] [] ((q_sees_ 6) l D B H0 ad _ hT x89 (ha.le (by omega)) (by show 0 ≤ x89 ∧ x89 ≤ 5 ∧ x89 < ((6 : Nat) : Int); omega)) cl_Mo_303 rfl (by decide) rfl rfl e_q_neededAhead_225 rfl rfl rfl ⟨by show _ ≤ (131 + 2 * n : Nat); omega, by show _ ≤ (3840 + 80 * n : Nat); omega⟩ ?_
      rintro v90 A91 ⟨z94, rfl, rfl, raw_hz_n93⟩
      have hz_n93 : z94 = 0 ∨ z94 = 1 := raw_hz_n93
      clear raw_hz_n93
      show JM g D ad w0 A 228 [(5, vi z55), (4, vi 0), (0, vr 0 0), (1, vi p), (2, vi i), (3, vi w)] [vi z94]
      refine m_if_eq (tgt := 243) C e_q_neededAhead_228 (by decide) (by omega) (fun c95 => ?_) (fun c95 => ?_)
      · refine m_blk 244 [(5, vi z55), (4, vi 0), (0, vr 0 0), (1, vi p), (2, vi i), (3, vi w)] [vi w] C f_q_neededAhead_243_1 rfl ?_
        exact m_iret C Rm E e_q_neededAhead_244 ⟨w, rfl, rfl, (by show -2147483648 ≤ w ∧ w ≤ 2147483647; omega)⟩
      · refine m_blk 244 [(5, vi z55), (4, vi 0), (0, vr 0 0), (1, vi p), (2, vi i), (3, vi w)] [vi (iOr (iAnd w (iXor 0 (-1))) z55)] C f_q_neededAhead_231_8 rfl ?_
        refine m_nrm (fun y96 hy96 => ?_)
        exact m_iret C Rm E e_q_neededAhead_244 ⟨y96, rfl, rfl, (by show -2147483648 ≤ y96 ∧ y96 ≤ 2147483647; omega)⟩

theorem f_q_neededFrom_0_2 : mblkB b_Mo_neededFrom [(0, .iload_n 2, vi 0), (1, .iload_n 3, vi 0)] = true := by decide +kernel
theorem e_q_neededFrom_2 : decode b_Mo_neededFrom 2 = .ok (.if_icmp .lt 8, 3) := by decide +kernel
theorem f_q_neededFrom_10_6 : mblkB b_Mo_neededFrom [(10, .aload_n 0, vi 0), (11, .iload_n 1, vi 0), (12, .iload_n 2, vi 0), (13, .aload_n 0, vi 0), (14, .iload_n 1, vi 0), (15, .aload_n 0, vi 0)] = true := by decide +kernel
theorem e_q_neededFrom_16 : decode b_Mo_neededFrom 16 = .ok (.getfield 30, 3) := by decide +kernel
theorem f_q_neededFrom_19_1 : mblkB b_Mo_neededFrom [(19, .iload_n 1, vi 0)] = true := by decide +kernel
theorem e_q_neededFrom_20 : decode b_Mo_neededFrom 20 = .ok (.aaload, 1) := by decide +kernel
theorem f_q_neededFrom_21_1 : mblkB b_Mo_neededFrom [(21, .iload_n 2, vi 0)] = true := by decide +kernel
theorem e_q_neededFrom_22 : decode b_Mo_neededFrom 22 = .ok (.iaload, 1) := by decide +kernel
theorem f_q_neededFrom_23_2 : mblkB b_Mo_neededFrom [(23, .iload_n 3, vi 0), (24, .iload 4, vi 0)] = true := by decide +kernel
theorem e_q_neededFrom_26 : decode b_Mo_neededFrom 26 = .ok (.invokevirtual 300, 3) := by decide +kernel
theorem e_q_neededFrom_29 : decode b_Mo_neededFrom 29 = .ok (.invokevirtual 361, 3) := by decide +kernel
theorem e_q_neededFrom_32 : decode b_Mo_neededFrom 32 = .ok (.ireturn, 1) := by decide +kernel
theorem f_q_neededFrom_5_2 : mblkB b_Mo_neededFrom [(5, .iload 4, vi 0), (7, .goto 25, vi 32)] = true := by decide +kernel
set_option maxHeartbeats 40000000 in
set_option maxRecDepth 100000 in
theorem q_neededFrom (n : Nat) (hrec : ∀ n1 : Nat, n = n1 + 1 → S_neededFrom n1 ∧ S_neededAhead n1) : S_neededFrom n := by
  intro l D B H0 ad A hT N M Ln dep p i t w hp hK ha hi hw
  refine m_met (by decide) rfl (fun g w0 C Rm Y E => ?_)
  show JM g D ad w0 A 0 [(0, vr 0 0), (1, vi p), (2, vi i), (3, vi t), (4, vi w)] []
  have hr9 := hK.rng
  obtain ⟨n1, hn1⟩ : ∃ n1, n = n1 + 1 := ⟨n - 1, by omega⟩
  refine m_blk 2 [(0, vr 0 0), (1, vi p), (2, vi i), (3, vi t), (4, vi w)] [vi t, vi i] C f_q_neededFrom_0_2 rfl ?_
  refine m_icmp_lt (tgt := 10) C e_q_neededFrom_2 (by decide) (by omega) (by omega) (fun c1 => ?_) (fun c1 => ?_)
  · have hs9 := hK.at (i := i) (by omega) (by omega)
    have he9 := hs9.en
    refine m_blk 16 [(0, vr 0 0), (1, vi p), (2, vi i), (3, vi t), (4, vi w)] [vr 0 0, vi p, vr 0 0, vi i, vi p, vr 0 0] C f_q_neededFrom_10_6 rfl ?_
    refine m_getr C e_q_neededFrom_16 fg_Mo_30 rfl (by decide) rfl ?_
    refine m_blk 20 [(0, vr 0 0), (1, vi p), (2, vi i), (3, vi t), (4, vi w)] [vi p, vr 17 0, vi p, vr 0 0, vi i, vi p, vr 0 0] C f_q_neededFrom_19_1 rfl ?_
    refine m_aald C p.toNat e_q_neededFrom_20 rfl rfl rfl (by decide) (by decide) (by omega) (by show p < ((6 : Nat) : Int); omega) (mz _ _) ?_
    refine m_blk 22 [(0, vr 0 0), (1, vi p), (2, vi i), (3, vi t), (4, vi w)] [vi i, vr 37 p.toNat, vi p, vr 0 0, vi i, vi p, vr 0 0] C f_q_neededFrom_21_1 rfl ?_
    obtain ⟨x2, hx2⟩ : ∃ x, A 37 p.toNat i.toNat = x := ⟨_, rfl⟩
    have rx2 : 0 ≤ x2 ∧ x2 ≤ 16 := mrg hT hx2 rfl
    refine m_iald C e_q_neededFrom_22 rfl (by omega) (by decide) (by omega) (by show i < ((16 : Nat) : Int); omega) x2 hx2 ?_
    refine m_blk 26 [(0, vr 0 0), (1, vi p), (2, vi i), (3, vi t), (4, vi w)] [vi w, vi t, vi x2, vi p, vr 0 0, vi i, vi p, vr 0 0] C f_q_neededFrom_23_2 rfl ?_
    refine m_callV C Rm Y [vi p, vi x2, vi t, vi w] [vi i, vi p, vr 0 0] ((hrec n1 hn1).1 l D B H0 ad _ hT N M Ln dep p x2 t w (by show 0 ≤ p ∧ p ≤ 5; omega) hK ha (by show 0 ≤ x2 ∧ x2 ≤ 16 ∧ 0 ≤ t ∧ t ≤ N ∧ 17 - x2 ≤ (n1 : Int); omega) (by show -2147483648 ≤ w ∧ w ≤ 2147483647; omega)) cl_Mo_300 rfl (by decide) rfl rfl e_q_neededFrom_26 rfl rfl rfl ⟨by show _ ≤ (130 + 2 * n : Nat); omega, by show _ ≤ (3800 + 80 * n : Nat); omega⟩ ?_
    rintro v3 A4 ⟨z7, rfl, rfl, raw_hz_n6⟩
    have hz_n6 : -2147483648 ≤ z7 ∧ z7 ≤ 2147483647 := raw_hz_n6
    clear raw_hz_n6
    show JM g D ad w0 A 29 [(0, vr 0 0), (1, vi p), (2, vi i), (3, vi t), (4, vi w)] [vi z7, vi i, vi p, vr 0 0]
    refine m_callV C Rm Y [vi p, vi i, vi z7] [] ((hrec n1 hn1).2 l D B H0 ad _ hT N M Ln dep p i z7 (by show 0 ≤ p ∧ p ≤ 5; omega) hK ha (by show 0 ≤ i ∧ i < N ∧ 16 - i ≤ (n1 : Int); omega) (by show -2147483648 ≤ z7 ∧ z7 ≤ 2147483647; omega)) cl_Mo_361 rfl (by decide) rfl rfl e_q_neededFrom_29 rfl rfl rfl ⟨by show _ ≤ (130 + 2 * n : Nat); omega, by show _ ≤ (3800 + 80 * n : Nat); omega⟩ ?_
    rintro v8 A9 ⟨z12, rfl, rfl, raw_hz_n11⟩
    have hz_n11 : -2147483648 ≤ z12 ∧ z12 ≤ 2147483647 := raw_hz_n11
    clear raw_hz_n11
    show JM g D ad w0 A 32 [(0, vr 0 0), (1, vi p), (2, vi i), (3, vi t), (4, vi w)] [vi z12]
    exact m_iret C Rm E e_q_neededFrom_32 ⟨z12, rfl, rfl, (by show -2147483648 ≤ z12 ∧ z12 ≤ 2147483647; omega)⟩
  · refine m_blk 32 [(0, vr 0 0), (1, vi p), (2, vi i), (3, vi t), (4, vi w)] [vi w] C f_q_neededFrom_5_2 rfl ?_
    exact m_iret C Rm E e_q_neededFrom_32 ⟨w, rfl, rfl, (by show -2147483648 ≤ w ∧ w ≤ 2147483647; omega)⟩

theorem q_needed_ : ∀ n : Nat, S_neededFrom n ∧ S_neededAhead n := fun n => by
  induction n with
  | zero =>
    have h : S_neededFrom 0 := q_neededFrom 0 (fun n1 h => absurd h (by omega))
    exact ⟨h, q_neededAhead 0 h⟩
  | succ n ih =>
    have h : S_neededFrom (n + 1) := q_neededFrom (n + 1) (fun n1 h => by
      have : n1 = n := by omega
      rw [this]
      exact ih)
    exact ⟨h, q_neededAhead (n + 1) h⟩
