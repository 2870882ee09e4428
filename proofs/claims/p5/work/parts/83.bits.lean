/-! the reference: programs as they stand (own work, by program) -/
def nH (P : Nat) (A : mA) (M : Int) : Prop := ∀ e : Nat, (e : Int) < M → (-1 ≤ A 45 P e ∧ A 45 P e < e) ∧ (-1 ≤ A 46 P e ∧ A 46 P e < e) ∧ (A 43 P e ≠ 0 → A 43 P e ≠ 1 → 0 ≤ A 45 P e) ∧ (A 43 P e ≠ 0 → A 43 P e ≠ 1 → A 43 P e ≠ 2 → 0 ≤ A 46 P e)
/-- program P is in order -/
def pK (A : mA) (P : Nat) (N M Ln : Int) (dep : Nat → Int) : Prop := (0 ≤ N ∧ N ≤ 16) ∧ (0 ≤ M ∧ M ≤ 120) ∧ (0 ≤ Ln ∧ Ln ≤ 40) ∧ (∀ i : Nat, (i : Int) < N → sG P A N M Ln dep i) ∧ nH P A M
theorem pK.at {A : mA} {P : Nat} {N M Ln : Int} {dep : Nat → Int} (h : pK A P N M Ln dep) {i : Int} (h0 : 0 ≤ i) (h1 : i < N) : sG P A N M Ln dep i.toNat := h.2.2.2.1 i.toNat (by omega)
theorem pK.rng {A : mA} {P : Nat} {N M Ln : Int} {dep : Nat → Int} (h : pK A P N M Ln dep) : (0 ≤ N ∧ N ≤ 16) ∧ (0 ≤ M ∧ M ≤ 120) ∧ (0 ≤ Ln ∧ Ln ≤ 40) := ⟨h.1, h.2.1, h.2.2.1⟩
theorem sG.en {A : mA} {P i : Nat} {N M Ln : Int} {dep : Nat → Int} (h : sG P A N M Ln dep i) : (i : Int) + 1 ≤ A 38 P i ∧ A 38 P i ≤ A 37 P i ∧ A 37 P i ≤ N := h.2.1
theorem sG.kd {A : mA} {P i : Nat} {N M Ln : Int} {dep : Nat → Int} (h : sG P A N M Ln dep i) : 0 ≤ A 34 P i ∧ A 34 P i ≤ 5 := h.1
theorem sG.tp {A : mA} {P i : Nat} {N M Ln : Int} {dep : Nat → Int} (h : sG P A N M Ln dep i) : -1 ≤ A 39 P i ∧ A 39 P i < M := h.2.2.1
theorem sG.t0 {A : mA} {P i : Nat} {N M Ln : Int} {dep : Nat → Int} (h : sG P A N M Ln dep i) (k : A 34 P i = 1 ∨ A 34 P i = 2 ∨ A 34 P i = 3 ∨ A 34 P i = 5) : 0 ≤ A 39 P i := h.2.2.2.1 k
theorem sG.k5 {A : mA} {P i : Nat} {N M Ln : Int} {dep : Nat → Int} (h : sG P A N M Ln dep i) (k : A 34 P i = 5) : 0 ≤ A 36 P i ∧ A 36 P i < P := h.2.2.2.2.2.1 k
theorem sG.k4 {A : mA} {P i : Nat} {N M Ln : Int} {dep : Nat → Int} (h : sG P A N M Ln dep i) (k : A 34 P i = 4) : 0 ≤ A 36 P i := h.2.2.2.2.2.2.1 k
theorem sG.k0 {A : mA} {P i : Nat} {N M Ln : Int} {dep : Nat → Int} (h : sG P A N M Ln dep i) (k : A 34 P i = 0) : 0 ≤ A 40 P i ∧ 1 ≤ A 36 P i ∧ A 40 P i + A 36 P i ≤ Ln ∧ 1 ≤ ws (A 42 P) (A 40 P i).toNat (A 36 P i).toNat := h.2.2.2.2.2.2.2.1 k
theorem ws_step {w : Nat → Int} {fl k : Int} (h0 : 0 ≤ fl) (h1 : 0 ≤ k) : ws w fl.toNat (k + 1).toNat = ws w fl.toNat k.toNat + w (fl + k).toNat := by
  have e : (k + 1).toNat = k.toNat + 1 := by omega
  have e2 : (fl + k).toNat = fl.toNat + k.toNat := by omega
  rw [e, e2]
  rfl
def S_bitsOfStep (n : Nat) : Prop := ∀ (l : Launch) (D : va_G) (B : Nat) (H0 : Heap) (ad : mAd) (A : mA) (hT : mTy A) (N : Int) (M : Int) (Ln : Int) (dep : Nat → Int) (p : Int) (i : Int) (hp : 0 ≤ p ∧ p ≤ 5) (hK : pK A p.toNat N M Ln dep) (hi : 0 ≤ i ∧ i < N ∧ 16 - i ≤ (n : Int)) , mMet l D B H0 ad y_Mo_bitsOfStep b_Mo_bitsOfStep 3 (some .int) (5 + 2 * n) (135 + 70 * n) [vr 0 0, vi p, vi i] A (fun v9 A9 => ∃ z : Int, v9 = some (vi z) ∧ A = A9 ∧ (-2147483648 ≤ z ∧ z ≤ 2147483647))
def S_bitsOf (n : Nat) : Prop := ∀ (l : Launch) (D : va_G) (B : Nat) (H0 : Heap) (ad : mAd) (A : mA) (hT : mTy A) (N : Int) (M : Int) (Ln : Int) (dep : Nat → Int) (p : Int) (a : Int) (b : Int) (hp : 0 ≤ p ∧ p ≤ 5) (hK : pK A p.toNat N M Ln dep) (ha : 0 ≤ a ∧ a ≤ 16 ∧ 0 ≤ b ∧ b ≤ N ∧ 17 - a ≤ (n : Int)) , mMet l D B H0 ad y_Mo_bitsOf b_Mo_bitsOf 6 (some .int) (4 + 2 * n) (100 + 70 * n) [vr 0 0, vi p, vi a, vi b] A (fun v9 A9 => ∃ z : Int, v9 = some (vi z) ∧ A = A9 ∧ (-2147483648 ≤ z ∧ z ≤ 2147483647))
def S_turnsOfStep (n : Nat) : Prop := ∀ (l : Launch) (D : va_G) (B : Nat) (H0 : Heap) (ad : mAd) (A : mA) (hT : mTy A) (N : Int) (M : Int) (Ln : Int) (dep : Nat → Int) (p : Int) (i : Int) (hp : 0 ≤ p ∧ p ≤ 5) (hK : pK A p.toNat N M Ln dep) (hi : 0 ≤ i ∧ i < N ∧ 16 - i ≤ (n : Int)) , mMet l D B H0 ad y_Mo_turnsOfStep b_Mo_turnsOfStep 3 (some .int) (5 + 2 * n) (135 + 70 * n) [vr 0 0, vi p, vi i] A (fun v9 A9 => ∃ z : Int, v9 = some (vi z) ∧ A = A9 ∧ (-2147483648 ≤ z ∧ z ≤ 2147483647))
def S_turnsOf (n : Nat) : Prop := ∀ (l : Launch) (D : va_G) (B : Nat) (H0 : Heap) (ad : mAd) (A : mA) (hT : mTy A) (N : Int) (M : Int) (Ln : Int) (dep : Nat → Int) (p : Int) (a : Int) (b : Int) (hp : 0 ≤ p ∧ p ≤ 5) (hK : pK A p.toNat N M Ln dep) (ha : 0 ≤ a ∧ a ≤ 16 ∧ 0 ≤ b ∧ b ≤ N ∧ 17 - a ≤ (n : Int)) , mMet l D B H0 ad y_Mo_turnsOf b_Mo_turnsOf 6 (some .int) (4 + 2 * n) (100 + 70 * n) [vr 0 0, vi p, vi a, vi b] A (fun v9 A9 => ∃ z : Int, v9 = some (vi z) ∧ A = A9 ∧ (-2147483648 ≤ z ∧ z ≤ 2147483647))
theorem f_q_lotsAll_0_4 : mblkB b_Mo_lotsAll [(0, .iconst 0, vi 0), (1, .istore_n 3, vi 0), (2, .iconst 0, vi 0), (3, .istore 4, vi 0)] = true := by decide +kernel
theorem f_q_lotsAll_5_2 : mblkB b_Mo_lotsAll [(5, .iload 4, vi 0), (7, .aload_n 0, vi 0)] = true := by decide +kernel
theorem e_q_lotsAll_8 : decode b_Mo_lotsAll 8 = .ok (.getfield 27, 3) := by decide +kernel
theorem f_q_lotsAll_11_1 : mblkB b_Mo_lotsAll [(11, .iload_n 1, vi 0)] = true := by decide +kernel
theorem e_q_lotsAll_12 : decode b_Mo_lotsAll 12 = .ok (.aaload, 1) := by decide +kernel
theorem f_q_lotsAll_13_1 : mblkB b_Mo_lotsAll [(13, .iload_n 2, vi 0)] = true := by decide +kernel
theorem e_q_lotsAll_14 : decode b_Mo_lotsAll 14 = .ok (.iaload, 1) := by decide +kernel
theorem e_q_lotsAll_15 : decode b_Mo_lotsAll 15 = .ok (.if_icmp .ge 30, 3) := by decide +kernel
theorem f_q_lotsAll_45_1 : mblkB b_Mo_lotsAll [(45, .iload_n 3, vi 0)] = true := by decide +kernel
theorem e_q_lotsAll_46 : decode b_Mo_lotsAll 46 = .ok (.ireturn, 1) := by decide +kernel
theorem f_q_lotsAll_18_2 : mblkB b_Mo_lotsAll [(18, .iload_n 3, vi 0), (19, .aload_n 0, vi 0)] = true := by decide +kernel
theorem e_q_lotsAll_20 : decode b_Mo_lotsAll 20 = .ok (.getfield 45, 3) := by decide +kernel
theorem f_q_lotsAll_23_1 : mblkB b_Mo_lotsAll [(23, .iload_n 1, vi 0)] = true := by decide +kernel
theorem e_q_lotsAll_24 : decode b_Mo_lotsAll 24 = .ok (.aaload, 1) := by decide +kernel
theorem f_q_lotsAll_25_1 : mblkB b_Mo_lotsAll [(25, .aload_n 0, vi 0)] = true := by decide +kernel
theorem e_q_lotsAll_26 : decode b_Mo_lotsAll 26 = .ok (.getfield 39, 3) := by decide +kernel
theorem f_q_lotsAll_29_1 : mblkB b_Mo_lotsAll [(29, .iload_n 1, vi 0)] = true := by decide +kernel
theorem e_q_lotsAll_30 : decode b_Mo_lotsAll 30 = .ok (.aaload, 1) := by decide +kernel
theorem f_q_lotsAll_31_1 : mblkB b_Mo_lotsAll [(31, .iload_n 2, vi 0)] = true := by decide +kernel
theorem e_q_lotsAll_32 : decode b_Mo_lotsAll 32 = .ok (.iaload, 1) := by decide +kernel
theorem f_q_lotsAll_33_2 : mblkB b_Mo_lotsAll [(33, .iload 4, vi 0), (35, .iadd, vi 0)] = true := by decide +kernel
theorem e_q_lotsAll_36 : decode b_Mo_lotsAll 36 = .ok (.iaload, 1) := by decide +kernel
theorem f_q_lotsAll_37_4 : mblkB b_Mo_lotsAll [(37, .iadd, vi 0), (38, .istore_n 3, vi 0), (39, .iinc 4 1, vi 1), (42, .goto (-37), vi 5)] = true := by decide +kernel
set_option maxHeartbeats 40000000 in
set_option maxRecDepth 100000 in
theorem q_lotsAll (l : Launch) (D : va_G) (B : Nat) (H0 : Heap) (ad : mAd) (A : mA) (hT : mTy A) (fl : Int) (nu : Int) (p : Int) (i : Int) (hp : 0 ≤ p ∧ p ≤ 5 ∧ 0 ≤ i ∧ i ≤ 15) (hf : A 40 p.toNat i.toNat = fl ∧ A 36 p.toNat i.toNat = nu ∧ 0 ≤ fl ∧ 0 ≤ nu ∧ nu ≤ 9 ∧ fl + nu ≤ 120)  : mMet l D B H0 ad y_Mo_lotsAll b_Mo_lotsAll 5 (some .int) 0 0 [vr 0 0, vi p, vi i] A (fun v9 A9 => ∃ z : Int, v9 = some (vi z) ∧ A = A9 ∧ (z = ws (A 42 p.toNat) fl.toNat nu.toNat ∧ 0 ≤ z ∧ z ≤ 16 * nu)) := by
  refine m_met (by decide) rfl (fun g w0 C Rm Y E => ?_)
  show JM g D ad w0 A 0 [(0, vr 0 0), (1, vi p), (2, vi i)] []
  refine m_blk 5 [(4, vi 0), (3, vi 0), (0, vr 0 0), (1, vi p), (2, vi i)] [] C f_q_lotsAll_0_4 rfl ?_
  have hd_5 : ∀ (NZ : Nat) (k : Int) (s : Int), 0 ≤ k ∧ k ≤ nu ∧ 0 ≤ s ∧ s ≤ 16 * k → s = ws (A 42 p.toNat) fl.toNat k.toNat → (20 - k) < (NZ : Int) → JM g D ad w0 A 5 [(4, vi k), (3, vi s), (0, vr 0 0), (1, vi p), (2, vi i)] [] := by
    intro NZ
    induction NZ with
    | zero => intro k s hk hs hm; exact absurd hm (by omega)
    | succ NZ ih =>
      intro k s hk hs hm
      refine m_blk 8 [(4, vi k), (3, vi s), (0, vr 0 0), (1, vi p), (2, vi i)] [vr 0 0, vi k] C f_q_lotsAll_5_2 rfl ?_
      refine m_getr C e_q_lotsAll_8 fg_Mo_27 rfl (by decide) rfl ?_
      refine m_blk 12 [(4, vi k), (3, vi s), (0, vr 0 0), (1, vi p), (2, vi i)] [vi p, vr 16 0, vi k] C f_q_lotsAll_11_1 rfl ?_
      refine m_aald C p.toNat e_q_lotsAll_12 rfl rfl rfl (by decide) (by decide) (by omega) (by show p < ((6 : Nat) : Int); omega) (mz _ _) ?_
      refine m_blk 14 [(4, vi k), (3, vi s), (0, vr 0 0), (1, vi p), (2, vi i)] [vi i, vr 36 p.toNat, vi k] C f_q_lotsAll_13_1 rfl ?_
      refine m_iald C e_q_lotsAll_14 rfl (by omega) (by decide) (by omega) (by show i < ((16 : Nat) : Int); omega) nu hf.2.1 ?_
      refine m_icmp_ge (tgt := 45) C e_q_lotsAll_15 (by decide) (by omega) (by omega) (fun c1 => ?_) (fun c1 => ?_)
      · refine m_blk 46 [(4, vi k), (3, vi s), (0, vr 0 0), (1, vi p), (2, vi i)] [vi s] C f_q_lotsAll_45_1 rfl ?_
        exact m_iret C Rm E e_q_lotsAll_46 ⟨s, rfl, rfl, (by have e9 : k = nu := (by omega); subst e9; exact ⟨hs, by omega, by omega⟩)⟩
      · refine m_blk 20 [(4, vi k), (3, vi s), (0, vr 0 0), (1, vi p), (2, vi i)] [vr 0 0, vi s] C f_q_lotsAll_18_2 rfl ?_
        refine m_getr C e_q_lotsAll_20 fg_Mo_45 rfl (by decide) rfl ?_
        refine m_blk 24 [(4, vi k), (3, vi s), (0, vr 0 0), (1, vi p), (2, vi i)] [vi p, vr 22 0, vi s] C f_q_lotsAll_23_1 rfl ?_
        refine m_aald C p.toNat e_q_lotsAll_24 rfl rfl rfl (by decide) (by decide) (by omega) (by show p < ((6 : Nat) : Int); omega) (mz _ _) ?_
        refine m_blk 26 [(4, vi k), (3, vi s), (0, vr 0 0), (1, vi p), (2, vi i)] [vr 0 0, vr 42 p.toNat, vi s] C f_q_lotsAll_25_1 rfl ?_
        refine m_getr C e_q_lotsAll_26 fg_Mo_39 rfl (by decide) rfl ?_
        refine m_blk 30 [(4, vi k), (3, vi s), (0, vr 0 0), (1, vi p), (2, vi i)] [vi p, vr 20 0, vr 42 p.toNat, vi s] C f_q_lotsAll_29_1 rfl ?_
        refine m_aald C p.toNat e_q_lotsAll_30 rfl rfl rfl (by decide) (by decide) (by omega) (by show p < ((6 : Nat) : Int); omega) (mz _ _) ?_
        refine m_blk 32 [(4, vi k), (3, vi s), (0, vr 0 0), (1, vi p), (2, vi i)] [vi i, vr 40 p.toNat, vr 42 p.toNat, vi s] C f_q_lotsAll_31_1 rfl ?_
        refine m_iald C e_q_lotsAll_32 rfl (by omega) (by decide) (by omega) (by show i < ((16 : Nat) : Int); omega) fl hf.1 ?_
        refine m_blk 36 [(4, vi k), (3, vi s), (0, vr 0 0), (1, vi p), (2, vi i)] [vi (fl + k), vr 42 p.toNat, vi s] C f_q_lotsAll_33_2 rfl ?_
        obtain ⟨x2, hx2⟩ : ∃ x, A 42 p.toNat ((fl + k).toNat) = x := ⟨_, rfl⟩
        have rx2 : 0 ≤ x2 ∧ x2 ≤ 16 := mrg hT hx2 rfl
        refine m_iald C e_q_lotsAll_36 rfl (by omega) (by decide) (by omega) (by show (fl + k) < ((120 : Nat) : Int); omega) x2 hx2 ?_
        refine m_blk 5 [(4, vi (k + 1)), (3, vi (s + x2)), (0, vr 0 0), (1, vi p), (2, vi i)] [] C f_q_lotsAll_37_4 rfl ?_
        refine m_loc [(4, vi (k + 1)), (3, vi (s + x2)), (0, vr 0 0), (1, vi p), (2, vi i)] ⟨rfl, rfl, rfl, rfl, rfl, trivial⟩ ?_
        exact ih (k + 1) (s + x2) (by show 0 ≤ (k + 1) ∧ (k + 1) ≤ nu ∧ 0 ≤ (s + x2) ∧ (s + x2) ≤ 16 * (k + 1); omega) (by rw [ws_step (by omega) (by omega), hs, hx2]) (by have hm9 := hm; show (20 - (k + 1)) < _; omega)
  refine m_loc [(4, vi 0), (3, vi 0), (0, vr 0 0), (1, vi p), (2, vi i)] ⟨rfl, rfl, rfl, rfl, rfl, trivial⟩ ?_
  exact hd_5 (Int.toNat ((20 - 0)) + 1) 0 0 (by show 0 ≤ 0 ∧ 0 ≤ nu ∧ 0 ≤ 0 ∧ 0 ≤ 16 * 0; omega) rfl (by show (20 - 0) < _; omega)

theorem f_q_bitsOfStep_0_1 : mblkB b_Mo_bitsOfStep [(0, .aload_n 0, vi 0)] = true := by decide +kernel
theorem e_q_bitsOfStep_1 : decode b_Mo_bitsOfStep 1 = .ok (.getfield 21, 3) := by decide +kernel
theorem f_q_bitsOfStep_4_1 : mblkB b_Mo_bitsOfStep [(4, .iload_n 1, vi 0)] = true := by decide +kernel
theorem e_q_bitsOfStep_5 : decode b_Mo_bitsOfStep 5 = .ok (.aaload, 1) := by decide +kernel
theorem f_q_bitsOfStep_6_1 : mblkB b_Mo_bitsOfStep [(6, .iload_n 2, vi 0)] = true := by decide +kernel
theorem e_q_bitsOfStep_7 : decode b_Mo_bitsOfStep 7 = .ok (.iaload, 1) := by decide +kernel
theorem e_q_bitsOfStep_8 : decode b_Mo_bitsOfStep 8 = .ok (.tableswitch 131 0 5 #[40, 131, 131, 50, 91, 117], 40) := by decide +kernel
theorem f_q_bitsOfStep_48_3 : mblkB b_Mo_bitsOfStep [(48, .aload_n 0, vi 0), (49, .iload_n 1, vi 0), (50, .iload_n 2, vi 0)] = true := by decide +kernel
theorem e_q_bitsOfStep_51 : decode b_Mo_bitsOfStep 51 = .ok (.invokevirtual 232, 3) := by decide +kernel
theorem e_q_bitsOfStep_54 : decode b_Mo_bitsOfStep 54 = .ok (.invokestatic 235, 3) := by decide +kernel
theorem e_q_bitsOfStep_57 : decode b_Mo_bitsOfStep 57 = .ok (.ireturn, 1) := by decide +kernel
theorem f_q_bitsOfStep_139_1 : mblkB b_Mo_bitsOfStep [(139, .iconst 0, vi 0)] = true := by decide +kernel
theorem e_q_bitsOfStep_140 : decode b_Mo_bitsOfStep 140 = .ok (.ireturn, 1) := by decide +kernel
theorem f_q_bitsOfStep_58_6 : mblkB b_Mo_bitsOfStep [(58, .aload_n 0, vi 0), (59, .iload_n 1, vi 0), (60, .iload_n 2, vi 0), (61, .iconst 1, vi 1), (62, .iadd, vi 0), (63, .aload_n 0, vi 0)] = true := by decide +kernel
theorem e_q_bitsOfStep_64 : decode b_Mo_bitsOfStep 64 = .ok (.getfield 33, 3) := by decide +kernel
theorem f_q_bitsOfStep_67_1 : mblkB b_Mo_bitsOfStep [(67, .iload_n 1, vi 0)] = true := by decide +kernel
theorem e_q_bitsOfStep_68 : decode b_Mo_bitsOfStep 68 = .ok (.aaload, 1) := by decide +kernel
theorem f_q_bitsOfStep_69_1 : mblkB b_Mo_bitsOfStep [(69, .iload_n 2, vi 0)] = true := by decide +kernel
theorem e_q_bitsOfStep_70 : decode b_Mo_bitsOfStep 70 = .ok (.iaload, 1) := by decide +kernel
theorem e_q_bitsOfStep_71 : decode b_Mo_bitsOfStep 71 = .ok (.invokevirtual 240, 3) := by decide +kernel
theorem f_q_bitsOfStep_74_3 : mblkB b_Mo_bitsOfStep [(74, .aload_n 0, vi 0), (75, .iload_n 1, vi 0), (76, .aload_n 0, vi 0)] = true := by decide +kernel
theorem e_q_bitsOfStep_77 : decode b_Mo_bitsOfStep 77 = .ok (.getfield 33, 3) := by decide +kernel
theorem f_q_bitsOfStep_80_1 : mblkB b_Mo_bitsOfStep [(80, .iload_n 1, vi 0)] = true := by decide +kernel
theorem e_q_bitsOfStep_81 : decode b_Mo_bitsOfStep 81 = .ok (.aaload, 1) := by decide +kernel
theorem f_q_bitsOfStep_82_1 : mblkB b_Mo_bitsOfStep [(82, .iload_n 2, vi 0)] = true := by decide +kernel
theorem e_q_bitsOfStep_83 : decode b_Mo_bitsOfStep 83 = .ok (.iaload, 1) := by decide +kernel
theorem f_q_bitsOfStep_84_1 : mblkB b_Mo_bitsOfStep [(84, .aload_n 0, vi 0)] = true := by decide +kernel
theorem e_q_bitsOfStep_85 : decode b_Mo_bitsOfStep 85 = .ok (.getfield 30, 3) := by decide +kernel
theorem f_q_bitsOfStep_88_1 : mblkB b_Mo_bitsOfStep [(88, .iload_n 1, vi 0)] = true := by decide +kernel
theorem e_q_bitsOfStep_89 : decode b_Mo_bitsOfStep 89 = .ok (.aaload, 1) := by decide +kernel
theorem f_q_bitsOfStep_90_1 : mblkB b_Mo_bitsOfStep [(90, .iload_n 2, vi 0)] = true := by decide +kernel
theorem e_q_bitsOfStep_91 : decode b_Mo_bitsOfStep 91 = .ok (.iaload, 1) := by decide +kernel
theorem e_q_bitsOfStep_92 : decode b_Mo_bitsOfStep 92 = .ok (.invokevirtual 240, 3) := by decide +kernel
theorem e_q_bitsOfStep_95 : decode b_Mo_bitsOfStep 95 = .ok (.invokestatic 243, 3) := by decide +kernel
theorem e_q_bitsOfStep_98 : decode b_Mo_bitsOfStep 98 = .ok (.ireturn, 1) := by decide +kernel
theorem f_q_bitsOfStep_99_1 : mblkB b_Mo_bitsOfStep [(99, .aload_n 0, vi 0)] = true := by decide +kernel
theorem e_q_bitsOfStep_100 : decode b_Mo_bitsOfStep 100 = .ok (.getfield 27, 3) := by decide +kernel
theorem f_q_bitsOfStep_103_1 : mblkB b_Mo_bitsOfStep [(103, .iload_n 1, vi 0)] = true := by decide +kernel
theorem e_q_bitsOfStep_104 : decode b_Mo_bitsOfStep 104 = .ok (.aaload, 1) := by decide +kernel
theorem f_q_bitsOfStep_105_1 : mblkB b_Mo_bitsOfStep [(105, .iload_n 2, vi 0)] = true := by decide +kernel
theorem e_q_bitsOfStep_106 : decode b_Mo_bitsOfStep 106 = .ok (.iaload, 1) := by decide +kernel
theorem f_q_bitsOfStep_107_6 : mblkB b_Mo_bitsOfStep [(107, .aload_n 0, vi 0), (108, .iload_n 1, vi 0), (109, .iload_n 2, vi 0), (110, .iconst 1, vi 1), (111, .iadd, vi 0), (112, .aload_n 0, vi 0)] = true := by decide +kernel
theorem e_q_bitsOfStep_113 : decode b_Mo_bitsOfStep 113 = .ok (.getfield 30, 3) := by decide +kernel
theorem f_q_bitsOfStep_116_1 : mblkB b_Mo_bitsOfStep [(116, .iload_n 1, vi 0)] = true := by decide +kernel
theorem e_q_bitsOfStep_117 : decode b_Mo_bitsOfStep 117 = .ok (.aaload, 1) := by decide +kernel
theorem f_q_bitsOfStep_118_1 : mblkB b_Mo_bitsOfStep [(118, .iload_n 2, vi 0)] = true := by decide +kernel
theorem e_q_bitsOfStep_119 : decode b_Mo_bitsOfStep 119 = .ok (.iaload, 1) := by decide +kernel
theorem e_q_bitsOfStep_120 : decode b_Mo_bitsOfStep 120 = .ok (.invokevirtual 240, 3) := by decide +kernel
theorem f_q_bitsOfStep_123_1 : mblkB b_Mo_bitsOfStep [(123, .imul, vi 0)] = true := by decide +kernel
theorem e_q_bitsOfStep_124 : decode b_Mo_bitsOfStep 124 = .ok (.ireturn, 1) := by decide +kernel
theorem f_q_bitsOfStep_125_1 : mblkB b_Mo_bitsOfStep [(125, .aload_n 0, vi 0)] = true := by decide +kernel
theorem e_q_bitsOfStep_126 : decode b_Mo_bitsOfStep 126 = .ok (.getfield 13, 3) := by decide +kernel
theorem f_q_bitsOfStep_129_1 : mblkB b_Mo_bitsOfStep [(129, .aload_n 0, vi 0)] = true := by decide +kernel
theorem e_q_bitsOfStep_130 : decode b_Mo_bitsOfStep 130 = .ok (.getfield 27, 3) := by decide +kernel
theorem f_q_bitsOfStep_133_1 : mblkB b_Mo_bitsOfStep [(133, .iload_n 1, vi 0)] = true := by decide +kernel
theorem e_q_bitsOfStep_134 : decode b_Mo_bitsOfStep 134 = .ok (.aaload, 1) := by decide +kernel
theorem f_q_bitsOfStep_135_1 : mblkB b_Mo_bitsOfStep [(135, .iload_n 2, vi 0)] = true := by decide +kernel
theorem e_q_bitsOfStep_136 : decode b_Mo_bitsOfStep 136 = .ok (.iaload, 1) := by decide +kernel
theorem e_q_bitsOfStep_137 : decode b_Mo_bitsOfStep 137 = .ok (.iaload, 1) := by decide +kernel
theorem e_q_bitsOfStep_138 : decode b_Mo_bitsOfStep 138 = .ok (.ireturn, 1) := by decide +kernel
set_option maxHeartbeats 40000000 in
set_option maxRecDepth 100000 in
theorem q_bitsOfStep (n : Nat) (hq9 : S_bitsOf n) : S_bitsOfStep n := by
  intro l D B H0 ad A hT N M Ln dep p i hp hK hi
  refine m_met (by decide) rfl (fun g w0 C Rm Y E => ?_)
  show JM g D ad w0 A 0 [(0, vr 0 0), (1, vi p), (2, vi i)] []
  have hr9 := hK.rng
  have hs9 := hK.at (i := i) (by omega) (by omega)
  have he9 := hs9.en
  have h36 : -1 ≤ A 36 p.toNat i.toNat ∧ A 36 p.toNat i.toNat ≤ 9 := hT 36 p.toNat i.toNat
  refine m_blk 1 [(0, vr 0 0), (1, vi p), (2, vi i)] [vr 0 0] C f_q_bitsOfStep_0_1 rfl ?_
  refine m_getr C e_q_bitsOfStep_1 fg_Mo_21 rfl (by decide) rfl ?_
  refine m_blk 5 [(0, vr 0 0), (1, vi p), (2, vi i)] [vi p, vr 14 0] C f_q_bitsOfStep_4_1 rfl ?_
  refine m_aald C p.toNat e_q_bitsOfStep_5 rfl rfl rfl (by decide) (by decide) (by omega) (by show p < ((6 : Nat) : Int); omega) (mz _ _) ?_
  refine m_blk 7 [(0, vr 0 0), (1, vi p), (2, vi i)] [vi i, vr 34 p.toNat] C f_q_bitsOfStep_6_1 rfl ?_
  obtain ⟨x1, hx1⟩ : ∃ x, A 34 p.toNat i.toNat = x := ⟨_, rfl⟩
  have rx1 : (-1) ≤ x1 ∧ x1 ≤ 255 := mrg hT hx1 rfl
  refine m_iald C e_q_bitsOfStep_7 rfl (by omega) (by decide) (by omega) (by show i < ((16 : Nat) : Int); omega) x1 hx1 ?_
  by_cases c2 : x1 = 0
  · refine m_tabIn (tgt := 48) C e_q_bitsOfStep_8 (by omega) (by omega) (by omega) (by rw [c2]; rfl) (by decide) ?_
    have f9 := hs9.k0 (by omega)
    refine m_blk 51 [(0, vr 0 0), (1, vi p), (2, vi i)] [vi i, vi p, vr 0 0] C f_q_bitsOfStep_48_3 rfl ?_
    refine m_callV C Rm Y [vi p, vi i] [] (q_lotsAll l D B H0 ad _ hT (A 40 p.toNat i.toNat) (A 36 p.toNat i.toNat) p i (by show 0 ≤ p ∧ p ≤ 5 ∧ 0 ≤ i ∧ i ≤ 15; omega) ⟨rfl, rfl, by omega, by omega, by omega, by omega⟩) cl_Mo_232 rfl (by decide) rfl rfl e_q_bitsOfStep_51 rfl rfl rfl ⟨by show _ ≤ (5 + 2 * n : Nat); omega, by show _ ≤ (135 + 70 * n : Nat); omega⟩ ?_
    rintro v3 A4 ⟨z7, rfl, rfl, raw_hz_n6⟩
    have hz_n6 : z7 = ws (A 42 p.toNat) (A 40 p.toNat i.toNat).toNat (A 36 p.toNat i.toNat).toNat ∧ 0 ≤ z7 ∧ z7 ≤ 16 * (A 36 p.toNat i.toNat) := raw_hz_n6
    clear raw_hz_n6
    show JM g D ad w0 A 54 [(0, vr 0 0), (1, vi p), (2, vi i)] [vi z7]
    refine m_callS C Rm Y [vi z7] [] (q_itz l D B H0 ad _ z7 (by show -2147483648 ≤ z7 ∧ z7 ≤ 2147483647; omega)) cl_Mo_235 e_q_bitsOfStep_54 rfl rfl rfl ⟨by show _ ≤ (5 + 2 * n : Nat); omega, by show _ ≤ (135 + 70 * n : Nat); omega⟩ ?_
    rintro v8 A9 ⟨z12, rfl, rfl, raw_hz_n11⟩
    have hz_n11 : -2147483648 ≤ z12 ∧ z12 ≤ 2147483647 := raw_hz_n11
    clear raw_hz_n11
    show JM g D ad w0 A 57 [(0, vr 0 0), (1, vi p), (2, vi i)] [vi z12]
    exact m_iret C Rm E e_q_bitsOfStep_57 ⟨z12, rfl, rfl, (by show -2147483648 ≤ z12 ∧ z12 ≤ 2147483647; omega)⟩
  by_cases c13 : x1 = 1
  · refine m_tabIn (tgt := 139) C e_q_bitsOfStep_8 (by omega) (by omega) (by omega) (by rw [c13]; rfl) (by decide) ?_
    refine m_blk 140 [(0, vr 0 0), (1, vi p), (2, vi i)] [vi 0] C f_q_bitsOfStep_139_1 rfl ?_
    exact m_iret C Rm E e_q_bitsOfStep_140 ⟨0, rfl, rfl, (by show -2147483648 ≤ 0 ∧ 0 ≤ 2147483647; omega)⟩
  by_cases c14 : x1 = 2
  · refine m_tabIn (tgt := 139) C e_q_bitsOfStep_8 (by omega) (by omega) (by omega) (by rw [c14]; rfl) (by decide) ?_
    refine m_blk 140 [(0, vr 0 0), (1, vi p), (2, vi i)] [vi 0] C f_q_bitsOfStep_139_1 rfl ?_
    exact m_iret C Rm E e_q_bitsOfStep_140 ⟨0, rfl, rfl, (by show -2147483648 ≤ 0 ∧ 0 ≤ 2147483647; omega)⟩
  by_cases c15 : x1 = 3
  · refine m_tabIn (tgt := 58) C e_q_bitsOfStep_8 (by omega) (by omega) (by omega) (by rw [c15]; rfl) (by decide) ?_
    refine m_blk 64 [(0, vr 0 0), (1, vi p), (2, vi i)] [vr 0 0, vi (i + 1), vi p, vr 0 0] C f_q_bitsOfStep_58_6 rfl ?_
    refine m_getr C e_q_bitsOfStep_64 fg_Mo_33 rfl (by decide) rfl ?_
    refine m_blk 68 [(0, vr 0 0), (1, vi p), (2, vi i)] [vi p, vr 18 0, vi (i + 1), vi p, vr 0 0] C f_q_bitsOfStep_67_1 rfl ?_
    refine m_aald C p.toNat e_q_bitsOfStep_68 rfl rfl rfl (by decide) (by decide) (by omega) (by show p < ((6 : Nat) : Int); omega) (mz _ _) ?_
    refine m_blk 70 [(0, vr 0 0), (1, vi p), (2, vi i)] [vi i, vr 38 p.toNat, vi (i + 1), vi p, vr 0 0] C f_q_bitsOfStep_69_1 rfl ?_
    obtain ⟨x16, hx16⟩ : ∃ x, A 38 p.toNat i.toNat = x := ⟨_, rfl⟩
    have rx16 : 0 ≤ x16 ∧ x16 ≤ 16 := mrg hT hx16 rfl
    refine m_iald C e_q_bitsOfStep_70 rfl (by omega) (by decide) (by omega) (by show i < ((16 : Nat) : Int); omega) x16 hx16 ?_
    refine m_callV C Rm Y [vi p, vi (i + 1), vi x16] [] (hq9 l D B H0 ad _ hT N M Ln dep p (i + 1) x16 (by show 0 ≤ p ∧ p ≤ 5; omega) hK (by show 0 ≤ (i + 1) ∧ (i + 1) ≤ 16 ∧ 0 ≤ x16 ∧ x16 ≤ N ∧ 17 - (i + 1) ≤ (n : Int); omega)) cl_Mo_240 rfl (by decide) rfl rfl e_q_bitsOfStep_71 rfl rfl rfl ⟨by show _ ≤ (5 + 2 * n : Nat); omega, by show _ ≤ (135 + 70 * n : Nat); omega⟩ ?_
    rintro v17 A18 ⟨z21, rfl, rfl, raw_hz_n20⟩
    have hz_n20 : -2147483648 ≤ z21 ∧ z21 ≤ 2147483647 := raw_hz_n20
    clear raw_hz_n20
    show JM g D ad w0 A 74 [(0, vr 0 0), (1, vi p), (2, vi i)] [vi z21]
    refine m_blk 77 [(0, vr 0 0), (1, vi p), (2, vi i)] [vr 0 0, vi p, vr 0 0, vi z21] C f_q_bitsOfStep_74_3 rfl ?_
    refine m_getr C e_q_bitsOfStep_77 fg_Mo_33 rfl (by decide) rfl ?_
    refine m_blk 81 [(0, vr 0 0), (1, vi p), (2, vi i)] [vi p, vr 18 0, vi p, vr 0 0, vi z21] C f_q_bitsOfStep_80_1 rfl ?_
    refine m_aald C p.toNat e_q_bitsOfStep_81 rfl rfl rfl (by decide) (by decide) (by omega) (by show p < ((6 : Nat) : Int); omega) (mz _ _) ?_
    refine m_blk 83 [(0, vr 0 0), (1, vi p), (2, vi i)] [vi i, vr 38 p.toNat, vi p, vr 0 0, vi z21] C f_q_bitsOfStep_82_1 rfl ?_
    refine m_iald C e_q_bitsOfStep_83 rfl (by omega) (by decide) (by omega) (by show i < ((16 : Nat) : Int); omega) x16 hx16 ?_
    refine m_blk 85 [(0, vr 0 0), (1, vi p), (2, vi i)] [vr 0 0, vi x16, vi p, vr 0 0, vi z21] C f_q_bitsOfStep_84_1 rfl ?_
    refine m_getr C e_q_bitsOfStep_85 fg_Mo_30 rfl (by decide) rfl ?_
    refine m_blk 89 [(0, vr 0 0), (1, vi p), (2, vi i)] [vi p, vr 17 0, vi x16, vi p, vr 0 0, vi z21] C f_q_bitsOfStep_88_1 rfl ?_
    refine m_aald C p.toNat e_q_bitsOfStep_89 rfl rfl rfl (by decide) (by decide) (by omega) (by show p < ((6 : Nat) : Int); omega) (mz _ _) ?_
    refine m_blk 91 [(0, vr 0 0), (1, vi p), (2, vi i)] [vi i, vr 37 p.toNat, vi x16, vi p, vr 0 0, vi z21] C f_q_bitsOfStep_90_1 rfl ?_
    obtain ⟨x22, hx22⟩ : ∃ x, A 37 p.toNat i.toNat = x := ⟨_, rfl⟩
    have rx22 : 0 ≤ x22 ∧ x22 ≤ 16 := mrg hT hx22 rfl
    refine m_iald C e_q_bitsOfStep_91 rfl (by omega) (by decide) (by omega) (by show i < ((16 : Nat) : Int); omega) x22 hx22 ?_
    refine m_callV C Rm Y [vi p, vi x16, vi x22] [vi z21] (hq9 l D B H0 ad _ hT N M Ln dep p x16 x22 (by show 0 ≤ p ∧ p ≤ 5; omega) hK (by show 0 ≤ x16 ∧ x16 ≤ 16 ∧ 0 ≤ x22 ∧ x22 ≤ N ∧ 17 - x16 ≤ (n : Int); omega)) cl_Mo_240 rfl (by decide) rfl rfl e_q_bitsOfStep_92 rfl rfl rfl ⟨by show _ ≤ (5 + 2 * n : Nat); omega, by show _ ≤ (135 + 70 * n : Nat); omega⟩ ?_
    rintro v23 A24 ⟨z27, rfl, rfl, raw_hz_n26⟩
    have hz_n26 : -2147483648 ≤ z27 ∧ z27 ≤ 2147483647 := raw_hz_n26
    clear raw_hz_n26
    show JM g D ad w0 A 95 [(0, vr 0 0), (1, vi p), (2, vi i)] [vi z27, vi z21]
    refine m_nrm (fun y28 hy28 => ?_)
    refine m_mmax C Rm cl_Mo_243 e_q_bitsOfStep_95 (by show 1 ≤ (5 + 2 * n : Nat); omega) (by show 0 + 13 ≤ (135 + 70 * n : Nat); omega) (by omega) (by omega) (fun z29 hz29 => ?_)
    exact m_iret C Rm E e_q_bitsOfStep_98 ⟨z29, rfl, rfl, (by show -2147483648 ≤ z29 ∧ z29 ≤ 2147483647; omega)⟩
  by_cases c30 : x1 = 4
  · refine m_tabIn (tgt := 99) C e_q_bitsOfStep_8 (by omega) (by omega) (by omega) (by rw [c30]; rfl) (by decide) ?_
    refine m_blk 100 [(0, vr 0 0), (1, vi p), (2, vi i)] [vr 0 0] C f_q_bitsOfStep_99_1 rfl ?_
    refine m_getr C e_q_bitsOfStep_100 fg_Mo_27 rfl (by decide) rfl ?_
    refine m_blk 104 [(0, vr 0 0), (1, vi p), (2, vi i)] [vi p, vr 16 0] C f_q_bitsOfStep_103_1 rfl ?_
    refine m_aald C p.toNat e_q_bitsOfStep_104 rfl rfl rfl (by decide) (by decide) (by omega) (by show p < ((6 : Nat) : Int); omega) (mz _ _) ?_
    refine m_blk 106 [(0, vr 0 0), (1, vi p), (2, vi i)] [vi i, vr 36 p.toNat] C f_q_bitsOfStep_105_1 rfl ?_
    obtain ⟨x31, hx31⟩ : ∃ x, A 36 p.toNat i.toNat = x := ⟨_, rfl⟩
    have rx31 : (-1) ≤ x31 ∧ x31 ≤ 9 := mrg hT hx31 rfl
    refine m_iald C e_q_bitsOfStep_106 rfl (by omega) (by decide) (by omega) (by show i < ((16 : Nat) : Int); omega) x31 hx31 ?_
    refine m_blk 113 [(0, vr 0 0), (1, vi p), (2, vi i)] [vr 0 0, vi (i + 1), vi p, vr 0 0, vi x31] C f_q_bitsOfStep_107_6 rfl ?_
    refine m_getr C e_q_bitsOfStep_113 fg_Mo_30 rfl (by decide) rfl ?_
    refine m_blk 117 [(0, vr 0 0), (1, vi p), (2, vi i)] [vi p, vr 17 0, vi (i + 1), vi p, vr 0 0, vi x31] C f_q_bitsOfStep_116_1 rfl ?_
    refine m_aald C p.toNat e_q_bitsOfStep_117 rfl rfl rfl (by decide) (by decide) (by omega) (by show p < ((6 : Nat) : Int); omega) (mz _ _) ?_
    refine m_blk 119 [(0, vr 0 0), (1, vi p), (2, vi i)] [vi i, vr 37 p.toNat, vi (i + 1), vi p, vr 0 0, vi x31] C f_q_bitsOfStep_118_1 rfl ?_
    obtain ⟨x32, hx32⟩ : ∃ x, A 37 p.toNat i.toNat = x := ⟨_, rfl⟩
    have rx32 : 0 ≤ x32 ∧ x32 ≤ 16 := mrg hT hx32 rfl
    refine m_iald C e_q_bitsOfStep_119 rfl (by omega) (by decide) (by omega) (by show i < ((16 : Nat) : Int); omega) x32 hx32 ?_
    refine m_callV C Rm Y [vi p, vi (i + 1), vi x32] [vi x31] (hq9 l D B H0 ad _ hT N M Ln dep p (i + 1) x32 (by show 0 ≤ p ∧ p ≤ 5; omega) hK (by show 0 ≤ (i + 1) ∧ (i + 1) ≤ 16 ∧ 0 ≤ x32 ∧ x32 ≤ N ∧ 17 - (i + 1) ≤ (n : Int); omega)) cl_Mo_240 rfl (by decide) rfl rfl e_q_bitsOfStep_120 rfl rfl rfl ⟨by show _ ≤ (5 + 2 * n : Nat); omega, by show _ ≤ (135 + 70 * n : Nat); omega⟩ ?_
    rintro v33 A34 ⟨z37, rfl, rfl, raw_hz_n36⟩
    have hz_n36 : -2147483648 ≤ z37 ∧ z37 ≤ 2147483647 := raw_hz_n36
    clear raw_hz_n36
    show JM g D ad w0 A 123 [(0, vr 0 0), (1, vi p), (2, vi i)] [vi z37, vi x31]
    refine m_blk 124 [(0, vr 0 0), (1, vi p), (2, vi i)] [vi (x31 * z37)] C f_q_bitsOfStep_123_1 rfl ?_
    refine m_nrm (fun y38 hy38 => ?_)
    exact m_iret C Rm E e_q_bitsOfStep_124 ⟨y38, rfl, rfl, (by show -2147483648 ≤ y38 ∧ y38 ≤ 2147483647; omega)⟩
  by_cases c39 : x1 = 5
  · refine m_tabIn (tgt := 125) C e_q_bitsOfStep_8 (by omega) (by omega) (by omega) (by rw [c39]; rfl) (by decide) ?_
    have f9 := hs9.k5 (by omega)
    refine m_blk 126 [(0, vr 0 0), (1, vi p), (2, vi i)] [vr 0 0] C f_q_bitsOfStep_125_1 rfl ?_
    refine m_getr C e_q_bitsOfStep_126 fg_Mo_13 rfl (by decide) rfl ?_
    refine m_blk 130 [(0, vr 0 0), (1, vi p), (2, vi i)] [vr 0 0, vr 6 0] C f_q_bitsOfStep_129_1 rfl ?_
    refine m_getr C e_q_bitsOfStep_130 fg_Mo_27 rfl (by decide) rfl ?_
    refine m_blk 134 [(0, vr 0 0), (1, vi p), (2, vi i)] [vi p, vr 16 0, vr 6 0] C f_q_bitsOfStep_133_1 rfl ?_
    refine m_aald C p.toNat e_q_bitsOfStep_134 rfl rfl rfl (by decide) (by decide) (by omega) (by show p < ((6 : Nat) : Int); omega) (mz _ _) ?_
    refine m_blk 136 [(0, vr 0 0), (1, vi p), (2, vi i)] [vi i, vr 36 p.toNat, vr 6 0] C f_q_bitsOfStep_135_1 rfl ?_
    obtain ⟨x40, hx40⟩ : ∃ x, A 36 p.toNat i.toNat = x := ⟨_, rfl⟩
    have rx40 : (-1) ≤ x40 ∧ x40 ≤ 9 := mrg hT hx40 rfl
    refine m_iald C e_q_bitsOfStep_136 rfl (by omega) (by decide) (by omega) (by show i < ((16 : Nat) : Int); omega) x40 hx40 ?_
    obtain ⟨x41, hx41⟩ : ∃ x, A 6 0 x40.toNat = x := ⟨_, rfl⟩
    have rx41 : (-2147483648) ≤ x41 ∧ x41 ≤ 2147483647 := mrg hT hx41 rfl
    refine m_iald C e_q_bitsOfStep_137 rfl (by decide) (by decide) (by omega) (by show x40 < ((6 : Nat) : Int); omega) x41 hx41 ?_
    exact m_iret C Rm E e_q_bitsOfStep_138 ⟨x41, rfl, rfl, (by show -2147483648 ≤ x41 ∧ x41 ≤ 2147483647; omega)⟩
  refine m_tabOut (tgt := 139) C e_q_bitsOfStep_8 (by omega) (by omega) (by decide) ?_
  refine m_blk 140 [(0, vr 0 0), (1, vi p), (2, vi i)] [vi 0] C f_q_bitsOfStep_139_1 rfl ?_
  exact m_iret C Rm E e_q_bitsOfStep_140 ⟨0, rfl, rfl, (by show -2147483648 ≤ 0 ∧ 0 ≤ 2147483647; omega)⟩

theorem f_q_bitsOf_0_4 : mblkB b_Mo_bitsOf [(0, .iconst 0, vi 0), (1, .istore 4, vi 0), (3, .iload_n 2, vi 0), (4, .istore 5, vi 0)] = true := by decide +kernel
theorem f_q_bitsOf_6_2 : mblkB b_Mo_bitsOf [(6, .iload 5, vi 0), (8, .iload_n 3, vi 0)] = true := by decide +kernel
theorem e_q_bitsOf_9 : decode b_Mo_bitsOf 9 = .ok (.if_icmp .ge 29, 3) := by decide +kernel
theorem f_q_bitsOf_38_1 : mblkB b_Mo_bitsOf [(38, .iload 4, vi 0)] = true := by decide +kernel
theorem e_q_bitsOf_40 : decode b_Mo_bitsOf 40 = .ok (.ireturn, 1) := by decide +kernel
theorem f_q_bitsOf_12_4 : mblkB b_Mo_bitsOf [(12, .iload 4, vi 0), (14, .aload_n 0, vi 0), (15, .iload_n 1, vi 0), (16, .iload 5, vi 0)] = true := by decide +kernel
theorem e_q_bitsOf_18 : decode b_Mo_bitsOf 18 = .ok (.invokevirtual 228, 3) := by decide +kernel
theorem f_q_bitsOf_21_3 : mblkB b_Mo_bitsOf [(21, .iadd, vi 0), (22, .istore 4, vi 0), (24, .aload_n 0, vi 0)] = true := by decide +kernel
theorem e_q_bitsOf_25 : decode b_Mo_bitsOf 25 = .ok (.getfield 30, 3) := by decide +kernel
theorem f_q_bitsOf_28_1 : mblkB b_Mo_bitsOf [(28, .iload_n 1, vi 0)] = true := by decide +kernel
theorem e_q_bitsOf_29 : decode b_Mo_bitsOf 29 = .ok (.aaload, 1) := by decide +kernel
theorem f_q_bitsOf_30_1 : mblkB b_Mo_bitsOf [(30, .iload 5, vi 0)] = true := by decide +kernel
theorem e_q_bitsOf_32 : decode b_Mo_bitsOf 32 = .ok (.iaload, 1) := by decide +kernel
theorem f_q_bitsOf_33_2 : mblkB b_Mo_bitsOf [(33, .istore 5, vi 0), (35, .goto (-29), vi 6)] = true := by decide +kernel
set_option maxHeartbeats 40000000 in
set_option maxRecDepth 100000 in
theorem q_bitsOf (n : Nat) (hrec : ∀ n1 : Nat, n = n1 + 1 → S_bitsOfStep n1) : S_bitsOf n := by
  intro l D B H0 ad A hT N M Ln dep p a b hp hK ha
  refine m_met (by decide) rfl (fun g w0 C Rm Y E => ?_)
  show JM g D ad w0 A 0 [(0, vr 0 0), (1, vi p), (2, vi a), (3, vi b)] []
  have hr9 := hK.rng
  obtain ⟨n1, hn1⟩ : ∃ n1, n = n1 + 1 := ⟨n - 1, by omega⟩
  refine m_blk 6 [(5, vi a), (4, vi 0), (0, vr 0 0), (1, vi p), (2, vi a), (3, vi b)] [] C f_q_bitsOf_0_4 rfl ?_
  have hd_6 : ∀ (NZ : Nat) (i : Int) (s : Int), a ≤ i ∧ i ≤ 16 → (40 - i) < (NZ : Int) → JM g D ad w0 A 6 [(5, vi i), (4, vi s), (0, vr 0 0), (1, vi p), (3, vi b)] [] := by
    intro NZ
    induction NZ with
    | zero => intro i s hk hm; exact absurd hm (by omega)
    | succ NZ ih =>
      intro i s hk hm
      refine m_blk 9 [(5, vi i), (4, vi s), (0, vr 0 0), (1, vi p), (3, vi b)] [vi b, vi i] C f_q_bitsOf_6_2 rfl ?_
      refine m_icmp_ge (tgt := 38) C e_q_bitsOf_9 (by decide) (by omega) (by omega) (fun c1 => ?_) (fun c1 => ?_)
      · refine m_blk 40 [(5, vi i), (4, vi s), (0, vr 0 0), (1, vi p), (3, vi b)] [vi s] C f_q_bitsOf_38_1 rfl ?_
        refine m_nrm (fun y2 hy2 => ?_)
        exact m_iret C Rm E e_q_bitsOf_40 ⟨y2, rfl, rfl, (by show -2147483648 ≤ y2 ∧ y2 ≤ 2147483647; omega)⟩
      · have hs9 := hK.at (i := i) (by omega) (by omega)
        have he9 := hs9.en
        refine m_blk 18 [(5, vi i), (4, vi s), (0, vr 0 0), (1, vi p), (3, vi b)] [vi i, vi p, vr 0 0, vi s] C f_q_bitsOf_12_4 rfl ?_
        refine m_callV C Rm Y [vi p, vi i] [vi s] ((hrec n1 hn1) l D B H0 ad _ hT N M Ln dep p i (by show 0 ≤ p ∧ p ≤ 5; omega) hK (by show 0 ≤ i ∧ i < N ∧ 16 - i ≤ (n1 : Int); omega)) cl_Mo_228 rfl (by decide) rfl rfl e_q_bitsOf_18 rfl rfl rfl ⟨by show _ ≤ (4 + 2 * n : Nat); omega, by show _ ≤ (100 + 70 * n : Nat); omega⟩ ?_
        rintro v3 A4 ⟨z7, rfl, rfl, raw_hz_n6⟩
        have hz_n6 : -2147483648 ≤ z7 ∧ z7 ≤ 2147483647 := raw_hz_n6
        clear raw_hz_n6
        show JM g D ad w0 A 21 [(5, vi i), (4, vi s), (0, vr 0 0), (1, vi p), (3, vi b)] [vi z7, vi s]
        refine m_blk 25 [(4, vi (s + z7)), (5, vi i), (0, vr 0 0), (1, vi p), (3, vi b)] [vr 0 0] C f_q_bitsOf_21_3 rfl ?_
        refine m_getr C e_q_bitsOf_25 fg_Mo_30 rfl (by decide) rfl ?_
        refine m_blk 29 [(4, vi (s + z7)), (5, vi i), (0, vr 0 0), (1, vi p), (3, vi b)] [vi p, vr 17 0] C f_q_bitsOf_28_1 rfl ?_
        refine m_aald C p.toNat e_q_bitsOf_29 rfl rfl rfl (by decide) (by decide) (by omega) (by show p < ((6 : Nat) : Int); omega) (mz _ _) ?_
        refine m_blk 32 [(4, vi (s + z7)), (5, vi i), (0, vr 0 0), (1, vi p), (3, vi b)] [vi i, vr 37 p.toNat] C f_q_bitsOf_30_1 rfl ?_
        obtain ⟨x8, hx8⟩ : ∃ x, A 37 p.toNat i.toNat = x := ⟨_, rfl⟩
        have rx8 : 0 ≤ x8 ∧ x8 ≤ 16 := mrg hT hx8 rfl
        refine m_iald C e_q_bitsOf_32 rfl (by omega) (by decide) (by omega) (by show i < ((16 : Nat) : Int); omega) x8 hx8 ?_
        refine m_blk 6 [(5, vi x8), (4, vi (s + z7)), (0, vr 0 0), (1, vi p), (3, vi b)] [] C f_q_bitsOf_33_2 rfl ?_
        refine m_loc [(5, vi x8), (4, vi (s + z7)), (0, vr 0 0), (1, vi p), (3, vi b)] ⟨rfl, rfl, rfl, rfl, rfl, trivial⟩ ?_
        exact ih x8 (s + z7) (by show a ≤ x8 ∧ x8 ≤ 16; omega) (by have hm9 := hm; show (40 - x8) < _; omega)
  refine m_loc [(5, vi a), (4, vi 0), (0, vr 0 0), (1, vi p), (3, vi b)] ⟨rfl, rfl, rfl, rfl, rfl, trivial⟩ ?_
  exact hd_6 (Int.toNat ((40 - a)) + 1) a 0 (by show a ≤ a ∧ a ≤ 16; omega) (by show (40 - a) < _; omega)

theorem q_bitsOf_ : ∀ n : Nat, S_bitsOf n ∧ S_bitsOfStep n := fun n => by
  induction n with
  | zero =>
    have h : S_bitsOf 0 := q_bitsOf 0 (fun n1 h => absurd h (by omega))
    exact ⟨h, q_bitsOfStep 0 h⟩
  | succ n ih =>
    have h : S_bitsOf (n + 1) := q_bitsOf (n + 1) (fun n1 h => by
      have : n1 = n := by omega
      rw [this]
      exact ih.2)
    exact ⟨h, q_bitsOfStep (n + 1) h⟩

theorem f_q_turnsOfStep_0_1 : mblkB b_Mo_turnsOfStep [(0, .aload_n 0, vi 0)] = true := by decide +kernel
theorem e_q_turnsOfStep_1 : decode b_Mo_turnsOfStep 1 = .ok (.getfield 21, 3) := by decide +kernel
theorem f_q_turnsOfStep_4_1 : mblkB b_Mo_turnsOfStep [(4, .iload_n 1, vi 0)] = true := by decide +kernel
theorem e_q_turnsOfStep_5 : decode b_Mo_turnsOfStep 5 = .ok (.aaload, 1) := by decide +kernel
theorem f_q_turnsOfStep_6_1 : mblkB b_Mo_turnsOfStep [(6, .iload_n 2, vi 0)] = true := by decide +kernel
theorem e_q_turnsOfStep_7 : decode b_Mo_turnsOfStep 7 = .ok (.iaload, 1) := by decide +kernel
theorem e_q_turnsOfStep_8 : decode b_Mo_turnsOfStep 8 = .ok (.tableswitch 91 3 5 #[28, 47, 75], 28) := by decide +kernel
theorem f_q_turnsOfStep_36_7 : mblkB b_Mo_turnsOfStep [(36, .iconst 1, vi 1), (37, .aload_n 0, vi 0), (38, .iload_n 1, vi 0), (39, .iload_n 2, vi 0), (40, .iconst 1, vi 1), (41, .iadd, vi 0), (42, .aload_n 0, vi 0)] = true := by decide +kernel
theorem e_q_turnsOfStep_43 : decode b_Mo_turnsOfStep 43 = .ok (.getfield 30, 3) := by decide +kernel
theorem f_q_turnsOfStep_46_1 : mblkB b_Mo_turnsOfStep [(46, .iload_n 1, vi 0)] = true := by decide +kernel
theorem e_q_turnsOfStep_47 : decode b_Mo_turnsOfStep 47 = .ok (.aaload, 1) := by decide +kernel
theorem f_q_turnsOfStep_48_1 : mblkB b_Mo_turnsOfStep [(48, .iload_n 2, vi 0)] = true := by decide +kernel
theorem e_q_turnsOfStep_49 : decode b_Mo_turnsOfStep 49 = .ok (.iaload, 1) := by decide +kernel
theorem e_q_turnsOfStep_50 : decode b_Mo_turnsOfStep 50 = .ok (.invokevirtual 251, 3) := by decide +kernel
theorem f_q_turnsOfStep_53_1 : mblkB b_Mo_turnsOfStep [(53, .iadd, vi 0)] = true := by decide +kernel
theorem e_q_turnsOfStep_54 : decode b_Mo_turnsOfStep 54 = .ok (.ireturn, 1) := by decide +kernel
theorem f_q_turnsOfStep_55_2 : mblkB b_Mo_turnsOfStep [(55, .iconst 1, vi 1), (56, .aload_n 0, vi 0)] = true := by decide +kernel
theorem e_q_turnsOfStep_57 : decode b_Mo_turnsOfStep 57 = .ok (.getfield 27, 3) := by decide +kernel
theorem f_q_turnsOfStep_60_1 : mblkB b_Mo_turnsOfStep [(60, .iload_n 1, vi 0)] = true := by decide +kernel
theorem e_q_turnsOfStep_61 : decode b_Mo_turnsOfStep 61 = .ok (.aaload, 1) := by decide +kernel
theorem f_q_turnsOfStep_62_1 : mblkB b_Mo_turnsOfStep [(62, .iload_n 2, vi 0)] = true := by decide +kernel
theorem e_q_turnsOfStep_63 : decode b_Mo_turnsOfStep 63 = .ok (.iaload, 1) := by decide +kernel
theorem f_q_turnsOfStep_64_6 : mblkB b_Mo_turnsOfStep [(64, .aload_n 0, vi 0), (65, .iload_n 1, vi 0), (66, .iload_n 2, vi 0), (67, .iconst 1, vi 1), (68, .iadd, vi 0), (69, .aload_n 0, vi 0)] = true := by decide +kernel
theorem e_q_turnsOfStep_70 : decode b_Mo_turnsOfStep 70 = .ok (.getfield 30, 3) := by decide +kernel
theorem f_q_turnsOfStep_73_1 : mblkB b_Mo_turnsOfStep [(73, .iload_n 1, vi 0)] = true := by decide +kernel
theorem e_q_turnsOfStep_74 : decode b_Mo_turnsOfStep 74 = .ok (.aaload, 1) := by decide +kernel
theorem f_q_turnsOfStep_75_1 : mblkB b_Mo_turnsOfStep [(75, .iload_n 2, vi 0)] = true := by decide +kernel
theorem e_q_turnsOfStep_76 : decode b_Mo_turnsOfStep 76 = .ok (.iaload, 1) := by decide +kernel
theorem e_q_turnsOfStep_77 : decode b_Mo_turnsOfStep 77 = .ok (.invokevirtual 251, 3) := by decide +kernel
theorem f_q_turnsOfStep_80_2 : mblkB b_Mo_turnsOfStep [(80, .imul, vi 0), (81, .iadd, vi 0)] = true := by decide +kernel
theorem e_q_turnsOfStep_82 : decode b_Mo_turnsOfStep 82 = .ok (.ireturn, 1) := by decide +kernel
theorem f_q_turnsOfStep_83_2 : mblkB b_Mo_turnsOfStep [(83, .iconst 1, vi 1), (84, .aload_n 0, vi 0)] = true := by decide +kernel
theorem e_q_turnsOfStep_85 : decode b_Mo_turnsOfStep 85 = .ok (.getfield 16, 3) := by decide +kernel
theorem f_q_turnsOfStep_88_1 : mblkB b_Mo_turnsOfStep [(88, .aload_n 0, vi 0)] = true := by decide +kernel
theorem e_q_turnsOfStep_89 : decode b_Mo_turnsOfStep 89 = .ok (.getfield 27, 3) := by decide +kernel
theorem f_q_turnsOfStep_92_1 : mblkB b_Mo_turnsOfStep [(92, .iload_n 1, vi 0)] = true := by decide +kernel
theorem e_q_turnsOfStep_93 : decode b_Mo_turnsOfStep 93 = .ok (.aaload, 1) := by decide +kernel
theorem f_q_turnsOfStep_94_1 : mblkB b_Mo_turnsOfStep [(94, .iload_n 2, vi 0)] = true := by decide +kernel
theorem e_q_turnsOfStep_95 : decode b_Mo_turnsOfStep 95 = .ok (.iaload, 1) := by decide +kernel
theorem e_q_turnsOfStep_96 : decode b_Mo_turnsOfStep 96 = .ok (.iaload, 1) := by decide +kernel
theorem f_q_turnsOfStep_97_1 : mblkB b_Mo_turnsOfStep [(97, .iadd, vi 0)] = true := by decide +kernel
theorem e_q_turnsOfStep_98 : decode b_Mo_turnsOfStep 98 = .ok (.ireturn, 1) := by decide +kernel
theorem f_q_turnsOfStep_99_1 : mblkB b_Mo_turnsOfStep [(99, .iconst 1, vi 1)] = true := by decide +kernel
theorem e_q_turnsOfStep_100 : decode b_Mo_turnsOfStep 100 = .ok (.ireturn, 1) := by decide +kernel
set_option maxHeartbeats 40000000 in
set_option maxRecDepth 100000 in
theorem q_turnsOfStep (n : Nat) (hq9 : S_turnsOf n) : S_turnsOfStep n := by
  intro l D B H0 ad A hT N M Ln dep p i hp hK hi
  refine m_met (by decide) rfl (fun g w0 C Rm Y E => ?_)
  show JM g D ad w0 A 0 [(0, vr 0 0), (1, vi p), (2, vi i)] []
  have hr9 := hK.rng
  have hs9 := hK.at (i := i) (by omega) (by omega)
  have he9 := hs9.en
  have h36 : -1 ≤ A 36 p.toNat i.toNat ∧ A 36 p.toNat i.toNat ≤ 9 := hT 36 p.toNat i.toNat
  refine m_blk 1 [(0, vr 0 0), (1, vi p), (2, vi i)] [vr 0 0] C f_q_turnsOfStep_0_1 rfl ?_
  refine m_getr C e_q_turnsOfStep_1 fg_Mo_21 rfl (by decide) rfl ?_
  refine m_blk 5 [(0, vr 0 0), (1, vi p), (2, vi i)] [vi p, vr 14 0] C f_q_turnsOfStep_4_1 rfl ?_
  refine m_aald C p.toNat e_q_turnsOfStep_5 rfl rfl rfl (by decide) (by decide) (by omega) (by show p < ((6 : Nat) : Int); omega) (mz _ _) ?_
  refine m_blk 7 [(0, vr 0 0), (1, vi p), (2, vi i)] [vi i, vr 34 p.toNat] C f_q_turnsOfStep_6_1 rfl ?_
  obtain ⟨x1, hx1⟩ : ∃ x, A 34 p.toNat i.toNat = x := ⟨_, rfl⟩
  have rx1 : (-1) ≤ x1 ∧ x1 ≤ 255 := mrg hT hx1 rfl
  refine m_iald C e_q_turnsOfStep_7 rfl (by omega) (by decide) (by omega) (by show i < ((16 : Nat) : Int); omega) x1 hx1 ?_
  by_cases c2 : x1 = 3
  · refine m_tabIn (tgt := 36) C e_q_turnsOfStep_8 (by omega) (by omega) (by omega) (by rw [c2]; rfl) (by decide) ?_
    refine m_blk 43 [(0, vr 0 0), (1, vi p), (2, vi i)] [vr 0 0, vi (i + 1), vi p, vr 0 0, vi 1] C f_q_turnsOfStep_36_7 rfl ?_
    refine m_getr C e_q_turnsOfStep_43 fg_Mo_30 rfl (by decide) rfl ?_
    refine m_blk 47 [(0, vr 0 0), (1, vi p), (2, vi i)] [vi p, vr 17 0, vi (i + 1), vi p, vr 0 0, vi 1] C f_q_turnsOfStep_46_1 rfl ?_
    refine m_aald C p.toNat e_q_turnsOfStep_47 rfl rfl rfl (by decide) (by decide) (by omega) (by show p < ((6 : Nat) : Int); omega) (mz _ _) ?_
    refine m_blk 49 [(0, vr 0 0), (1, vi p), (2, vi i)] [vi i, vr 37 p.toNat, vi (i + 1), vi p, vr 0 0, vi 1] C f_q_turnsOfStep_48_1 rfl ?_
    obtain ⟨x3, hx3⟩ : ∃ x, A 37 p.toNat i.toNat = x := ⟨_, rfl⟩
    have rx3 : 0 ≤ x3 ∧ x3 ≤ 16 := mrg hT hx3 rfl
    refine m_iald C e_q_turnsOfStep_49 rfl (by omega) (by decide) (by omega) (by show i < ((16 : Nat) : Int); omega) x3 hx3 ?_
    refine m_callV C Rm Y [vi p, vi (i + 1), vi x3] [vi 1] (hq9 l D B H0 ad _ hT N M Ln dep p (i + 1) x3 (by show 0 ≤ p ∧ p ≤ 5; omega) hK (by show 0 ≤ (i + 1) ∧ (i + 1) ≤ 16 ∧ 0 ≤ x3 ∧ x3 ≤ N ∧ 17 - (i + 1) ≤ (n : Int); omega)) cl_Mo_251 rfl (by decide) rfl rfl e_q_turnsOfStep_50 rfl rfl rfl ⟨by show _ ≤ (5 + 2 * n : Nat); omega, by show _ ≤ (135 + 70 * n : Nat); omega⟩ ?_
    rintro v4 A5 ⟨z8, rfl, rfl, raw_hz_n7⟩
    have hz_n7 : -2147483648 ≤ z8 ∧ z8 ≤ 2147483647 := raw_hz_n7
    clear raw_hz_n7
    show JM g D ad w0 A 53 [(0, vr 0 0), (1, vi p), (2, vi i)] [vi z8, vi 1]
    refine m_blk 54 [(0, vr 0 0), (1, vi p), (2, vi i)] [vi (1 + z8)] C f_q_turnsOfStep_53_1 rfl ?_
    refine m_nrm (fun y9 hy9 => ?_)
    exact m_iret C Rm E e_q_turnsOfStep_54 ⟨y9, rfl, rfl, (by show -2147483648 ≤ y9 ∧ y9 ≤ 2147483647; omega)⟩
  by_cases c10 : x1 = 4
  · refine m_tabIn (tgt := 55) C e_q_turnsOfStep_8 (by omega) (by omega) (by omega) (by rw [c10]; rfl) (by decide) ?_
    refine m_blk 57 [(0, vr 0 0), (1, vi p), (2, vi i)] [vr 0 0, vi 1] C f_q_turnsOfStep_55_2 rfl ?_
    refine m_getr C e_q_turnsOfStep_57 fg_Mo_27 rfl (by decide) rfl ?_
    refine m_blk 61 [(0, vr 0 0), (1, vi p), (2, vi i)] [vi p, vr 16 0, vi 1] C f_q_turnsOfStep_60_1 rfl ?_
    refine m_aald C p.toNat e_q_turnsOfStep_61 rfl rfl rfl (by decide) (by decide) (by omega) (by show p < ((6 : Nat) : Int); omega) (mz _ _) ?_
    refine m_blk 63 [(0, vr 0 0), (1, vi p), (2, vi i)] [vi i, vr 36 p.toNat, vi 1] C f_q_turnsOfStep_62_1 rfl ?_
    obtain ⟨x11, hx11⟩ : ∃ x, A 36 p.toNat i.toNat = x := ⟨_, rfl⟩
    have rx11 : (-1) ≤ x11 ∧ x11 ≤ 9 := mrg hT hx11 rfl
    refine m_iald C e_q_turnsOfStep_63 rfl (by omega) (by decide) (by omega) (by show i < ((16 : Nat) : Int); omega) x11 hx11 ?_
    refine m_blk 70 [(0, vr 0 0), (1, vi p), (2, vi i)] [vr 0 0, vi (i + 1), vi p, vr 0 0, vi x11, vi 1] C f_q_turnsOfStep_64_6 rfl ?_
    refine m_getr C e_q_turnsOfStep_70 fg_Mo_30 rfl (by decide) rfl ?_
    refine m_blk 74 [(0, vr 0 0), (1, vi p), (2, vi i)] [vi p, vr 17 0, vi (i + 1), vi p, vr 0 0, vi x11, vi 1] C f_q_turnsOfStep_73_1 rfl ?_
    refine m_aald C p.toNat e_q_turnsOfStep_74 rfl rfl rfl (by decide) (by decide) (by omega) (by show p < ((6 : Nat) : Int); omega) (mz _ _) ?_
    refine m_blk 76 [(0, vr 0 0), (1, vi p), (2, vi i)] [vi i, vr 37 p.toNat, vi (i + 1), vi p, vr 0 0, vi x11, vi 1] C f_q_turnsOfStep_75_1 rfl ?_
    obtain ⟨x12, hx12⟩ : ∃ x, A 37 p.toNat i.toNat = x := ⟨_, rfl⟩
    have rx12 : 0 ≤ x12 ∧ x12 ≤ 16 := mrg hT hx12 rfl
    refine m_iald C e_q_turnsOfStep_76 rfl (by omega) (by decide) (by omega) (by show i < ((16 : Nat) : Int); omega) x12 hx12 ?_
    refine m_callV C Rm Y [vi p, vi (i + 1), vi x12] [vi x11, vi 1] (hq9 l D B H0 ad _ hT N M Ln dep p (i + 1) x12 (by show 0 ≤ p ∧ p ≤ 5; omega) hK (by show 0 ≤ (i + 1) ∧ (i + 1) ≤ 16 ∧ 0 ≤ x12 ∧ x12 ≤ N ∧ 17 - (i + 1) ≤ (n : Int); omega)) cl_Mo_251 rfl (by decide) rfl rfl e_q_turnsOfStep_77 rfl rfl rfl ⟨by show _ ≤ (5 + 2 * n : Nat); omega, by show _ ≤ (135 + 70 * n : Nat); omega⟩ ?_
    rintro v13 A14 ⟨z17, rfl, rfl, raw_hz_n16⟩
    have hz_n16 : -2147483648 ≤ z17 ∧ z17 ≤ 2147483647 := raw_hz_n16
    clear raw_hz_n16
    show JM g D ad w0 A 80 [(0, vr 0 0), (1, vi p), (2, vi i)] [vi z17, vi x11, vi 1]
    refine m_blk 82 [(0, vr 0 0), (1, vi p), (2, vi i)] [vi (1 + (x11 * z17))] C f_q_turnsOfStep_80_2 rfl ?_
    refine m_nrm (fun y18 hy18 => ?_)
    exact m_iret C Rm E e_q_turnsOfStep_82 ⟨y18, rfl, rfl, (by show -2147483648 ≤ y18 ∧ y18 ≤ 2147483647; omega)⟩
  by_cases c19 : x1 = 5
  · refine m_tabIn (tgt := 83) C e_q_turnsOfStep_8 (by omega) (by omega) (by omega) (by rw [c19]; rfl) (by decide) ?_
    have f9 := hs9.k5 (by omega)
    refine m_blk 85 [(0, vr 0 0), (1, vi p), (2, vi i)] [vr 0 0, vi 1] C f_q_turnsOfStep_83_2 rfl ?_
    refine m_getr C e_q_turnsOfStep_85 fg_Mo_16 rfl (by decide) rfl ?_
    refine m_blk 89 [(0, vr 0 0), (1, vi p), (2, vi i)] [vr 0 0, vr 7 0, vi 1] C f_q_turnsOfStep_88_1 rfl ?_
    refine m_getr C e_q_turnsOfStep_89 fg_Mo_27 rfl (by decide) rfl ?_
    refine m_blk 93 [(0, vr 0 0), (1, vi p), (2, vi i)] [vi p, vr 16 0, vr 7 0, vi 1] C f_q_turnsOfStep_92_1 rfl ?_
    refine m_aald C p.toNat e_q_turnsOfStep_93 rfl rfl rfl (by decide) (by decide) (by omega) (by show p < ((6 : Nat) : Int); omega) (mz _ _) ?_
    refine m_blk 95 [(0, vr 0 0), (1, vi p), (2, vi i)] [vi i, vr 36 p.toNat, vr 7 0, vi 1] C f_q_turnsOfStep_94_1 rfl ?_
    obtain ⟨x20, hx20⟩ : ∃ x, A 36 p.toNat i.toNat = x := ⟨_, rfl⟩
    have rx20 : (-1) ≤ x20 ∧ x20 ≤ 9 := mrg hT hx20 rfl
    refine m_iald C e_q_turnsOfStep_95 rfl (by omega) (by decide) (by omega) (by show i < ((16 : Nat) : Int); omega) x20 hx20 ?_
    obtain ⟨x21, hx21⟩ : ∃ x, A 7 0 x20.toNat = x := ⟨_, rfl⟩
    have rx21 : (-2147483648) ≤ x21 ∧ x21 ≤ 2147483647 := mrg hT hx21 rfl
    refine m_iald C e_q_turnsOfStep_96 rfl (by decide) (by decide) (by omega) (by show x20 < ((6 : Nat) : Int); omega) x21 hx21 ?_
    refine m_blk 98 [(0, vr 0 0), (1, vi p), (2, vi i)] [vi (1 + x21)] C f_q_turnsOfStep_97_1 rfl ?_
    refine m_nrm (fun y22 hy22 => ?_)
    exact m_iret C Rm E e_q_turnsOfStep_98 ⟨y22, rfl, rfl, (by show -2147483648 ≤ y22 ∧ y22 ≤ 2147483647; omega)⟩
  refine m_tabOut (tgt := 99) C e_q_turnsOfStep_8 (by omega) (by omega) (by decide) ?_
  refine m_blk 100 [(0, vr 0 0), (1, vi p), (2, vi i)] [vi 1] C f_q_turnsOfStep_99_1 rfl ?_
  exact m_iret C Rm E e_q_turnsOfStep_100 ⟨1, rfl, rfl, (by show -2147483648 ≤ 1 ∧ 1 ≤ 2147483647; omega)⟩

theorem f_q_turnsOf_0_4 : mblkB b_Mo_turnsOf [(0, .iconst 0, vi 0), (1, .istore 4, vi 0), (3, .iload_n 2, vi 0), (4, .istore 5, vi 0)] = true := by decide +kernel
theorem f_q_turnsOf_6_2 : mblkB b_Mo_turnsOf [(6, .iload 5, vi 0), (8, .iload_n 3, vi 0)] = true := by decide +kernel
theorem e_q_turnsOf_9 : decode b_Mo_turnsOf 9 = .ok (.if_icmp .ge 29, 3) := by decide +kernel
theorem f_q_turnsOf_38_1 : mblkB b_Mo_turnsOf [(38, .iload 4, vi 0)] = true := by decide +kernel
theorem e_q_turnsOf_40 : decode b_Mo_turnsOf 40 = .ok (.ireturn, 1) := by decide +kernel
theorem f_q_turnsOf_12_4 : mblkB b_Mo_turnsOf [(12, .iload 4, vi 0), (14, .aload_n 0, vi 0), (15, .iload_n 1, vi 0), (16, .iload 5, vi 0)] = true := by decide +kernel
theorem e_q_turnsOf_18 : decode b_Mo_turnsOf 18 = .ok (.invokevirtual 248, 3) := by decide +kernel
theorem f_q_turnsOf_21_3 : mblkB b_Mo_turnsOf [(21, .iadd, vi 0), (22, .istore 4, vi 0), (24, .aload_n 0, vi 0)] = true := by decide +kernel
theorem e_q_turnsOf_25 : decode b_Mo_turnsOf 25 = .ok (.getfield 30, 3) := by decide +kernel
theorem f_q_turnsOf_28_1 : mblkB b_Mo_turnsOf [(28, .iload_n 1, vi 0)] = true := by decide +kernel
theorem e_q_turnsOf_29 : decode b_Mo_turnsOf 29 = .ok (.aaload, 1) := by decide +kernel
theorem f_q_turnsOf_30_1 : mblkB b_Mo_turnsOf [(30, .iload 5, vi 0)] = true := by decide +kernel
theorem e_q_turnsOf_32 : decode b_Mo_turnsOf 32 = .ok (.iaload, 1) := by decide +kernel
theorem f_q_turnsOf_33_2 : mblkB b_Mo_turnsOf [(33, .istore 5, vi 0), (35, .goto (-29), vi 6)] = true := by decide +kernel
set_option maxHeartbeats 40000000 in
set_option maxRecDepth 100000 in
theorem q_turnsOf (n : Nat) (hrec : ∀ n1 : Nat, n = n1 + 1 → S_turnsOfStep n1) : S_turnsOf n := by
  intro l D B H0 ad A hT N M Ln dep p a b hp hK ha
  refine m_met (by decide) rfl (fun g w0 C Rm Y E => ?_)
  show JM g D ad w0 A 0 [(0, vr 0 0), (1, vi p), (2, vi a), (3, vi b)] []
  have hr9 := hK.rng
  obtain ⟨n1, hn1⟩ : ∃ n1, n = n1 + 1 := ⟨n - 1, by omega⟩
  refine m_blk 6 [(5, vi a), (4, vi 0), (0, vr 0 0), (1, vi p), (2, vi a), (3, vi b)] [] C f_q_turnsOf_0_4 rfl ?_
  have hd_6 : ∀ (NZ : Nat) (i : Int) (s : Int), a ≤ i ∧ i ≤ 16 → (40 - i) < (NZ : Int) → JM g D ad w0 A 6 [(5, vi i), (4, vi s), (0, vr 0 0), (1, vi p), (3, vi b)] [] := by
    intro NZ
    induction NZ with
    | zero => intro i s hk hm; exact absurd hm (by omega)
    | succ NZ ih =>
      intro i s hk hm
      refine m_blk 9 [(5, vi i), (4, vi s), (0, vr 0 0), (1, vi p), (3, vi b)] [vi b, vi i] C f_q_turnsOf_6_2 rfl ?_
      refine m_icmp_ge (tgt := 38) C e_q_turnsOf_9 (by decide) (by omega) (by omega) (fun c1 => ?_) (fun c1 => ?_)
      · refine m_blk 40 [(5, vi i), (4, vi s), (0, vr 0 0), (1, vi p), (3, vi b)] [vi s] C f_q_turnsOf_38_1 rfl ?_
        refine m_nrm (fun y2 hy2 => ?_)
        exact m_iret C Rm E e_q_turnsOf_40 ⟨y2, rfl, rfl, (by show -2147483648 ≤ y2 ∧ y2 ≤ 2147483647; omega)⟩
      · have hs9 := hK.at (i := i) (by omega) (by omega)
        have he9 := hs9.en
        refine m_blk 18 [(5, vi i), (4, vi s), (0, vr 0 0), (1, vi p), (3, vi b)] [vi i, vi p, vr 0 0, vi s] C f_q_turnsOf_12_4 rfl ?_
        refine m_callV C Rm Y [vi p, vi i] [vi s] ((hrec n1 hn1) l D B H0 ad _ hT N M Ln dep p i (by show 0 ≤ p ∧ p ≤ 5; omega) hK (by show 0 ≤ i ∧ i < N ∧ 16 - i ≤ (n1 : Int); omega)) cl_Mo_248 rfl (by decide) rfl rfl e_q_turnsOf_18 rfl rfl rfl ⟨by show _ ≤ (4 + 2 * n : Nat); omega, by show _ ≤ (100 + 70 * n : Nat); omega⟩ ?_
        rintro v3 A4 ⟨z7, rfl, rfl, raw_hz_n6⟩
        have hz_n6 : -2147483648 ≤ z7 ∧ z7 ≤ 2147483647 := raw_hz_n6
        clear raw_hz_n6
        show JM g D ad w0 A 21 [(5, vi i), (4, vi s), (0, vr 0 0), (1, vi p), (3, vi b)] [vi z7, vi s]
        refine m_blk 25 [(4, vi (s + z7)), (5, vi i), (0, vr 0 0), (1, vi p), (3, vi b)] [vr 0 0] C f_q_turnsOf_21_3 rfl ?_
        refine m_getr C e_q_turnsOf_25 fg_Mo_30 rfl (by decide) rfl ?_
        refine m_blk 29 [(4, vi (s + z7)), (5, vi i), (0, vr 0 0), (1, vi p), (3, vi b)] [vi p, vr 17 0] C f_q_turnsOf_28_1 rfl ?_
        refine m_aald C p.toNat e_q_turnsOf_29 rfl rfl rfl (by decide) (by decide) (by omega) (by show p < ((6 : Nat) : Int); omega) (mz _ _) ?_
        refine m_blk 32 [(4, vi (s + z7)), (5, vi i), (0, vr 0 0), (1, vi p), (3, vi b)] [vi i, vr 37 p.toNat] C f_q_turnsOf_30_1 rfl ?_
        obtain ⟨x8, hx8⟩ : ∃ x, A 37 p.toNat i.toNat = x := ⟨_, rfl⟩
        have rx8 : 0 ≤ x8 ∧ x8 ≤ 16 := mrg hT hx8 rfl
        refine m_iald C e_q_turnsOf_32 rfl (by omega) (by decide) (by omega) (by show i < ((16 : Nat) : Int); omega) x8 hx8 ?_
        refine m_blk 6 [(5, vi x8), (4, vi (s + z7)), (0, vr 0 0), (1, vi p), (3, vi b)] [] C f_q_turnsOf_33_2 rfl ?_
        refine m_loc [(5, vi x8), (4, vi (s + z7)), (0, vr 0 0), (1, vi p), (3, vi b)] ⟨rfl, rfl, rfl, rfl, rfl, trivial⟩ ?_
        exact ih x8 (s + z7) (by show a ≤ x8 ∧ x8 ≤ 16; omega) (by have hm9 := hm; show (40 - x8) < _; omega)
  refine m_loc [(5, vi a), (4, vi 0), (0, vr 0 0), (1, vi p), (3, vi b)] ⟨rfl, rfl, rfl, rfl, rfl, trivial⟩ ?_
  exact hd_6 (Int.toNat ((40 - a)) + 1) a 0 (by show a ≤ a ∧ a ≤ 16; omega) (by show (40 - a) < _; omega)

theorem q_turnsOf_ : ∀ n : Nat, S_turnsOf n ∧ S_turnsOfStep n := fun n => by
  induction n with
  | zero =>
    have h : S_turnsOf 0 := q_turnsOf 0 (fun n1 h => absurd h (by omega))
    exact ⟨h, q_turnsOfStep 0 h⟩
  | succ n ih =>
    have h : S_turnsOf (n + 1) := q_turnsOf (n + 1) (fun n1 h => by
      have : n1 = n := by omega
      rw [this]
      exact ih.2)
    exact ⟨h, q_turnsOfStep (n + 1) h⟩
