/-! the reference: program() (own work, by program) -/
def Pok (A : mA) (p : Nat) : Prop := ∃ (M Ln : Int) (dep : Nat → Int), pK A p (A 5 0 p) M Ln dep
def mS (A : mA) : Prop := ∀ c : Nat, (∀ v, v < 10 → 0 ≤ A 51 c v) ∧ ws (A 51 c) 0 10 ≤ 1125899906842624
/-- THE REFERENCE IS IN ORDER -/
def mI (A : mA) : Prop := (∀ p : Nat, (p : Int) < A 0 0 0 → Pok A p) ∧ A 0 0 37 ≤ A 0 0 0 ∧ mS A
theorem nH.fam {P : Nat} {A A9 : mA} {M : Int} (h : nH P A M) (k : ∀ f, 34 ≤ f → f ≤ 46 → A9 f P = A f P) : nH P A9 M := fun e he => by
  rw [k 43 (by omega) (by omega), k 45 (by omega) (by omega), k 46 (by omega) (by omega)]
  exact h e he
theorem sG.fam2 {P : Nat} {A A9 : mA} {N M Ln : Int} {dep : Nat → Int} {i : Nat} (h : sG P A N M Ln dep i) (k : ∀ f, 34 ≤ f → f ≤ 46 → A9 f P = A f P) : sG P A9 N M Ln dep i := by
  unfold sG at h ⊢
  rw [k 34 (by omega) (by omega), k 35 (by omega) (by omega), k 36 (by omega) (by omega), k 37 (by omega) (by omega), k 38 (by omega) (by omega), k 39 (by omega) (by omega), k 40 (by omega) (by omega), k 42 (by omega) (by omega)]
  exact h
theorem pK.fam {A A9 : mA} {P : Nat} {N M Ln : Int} {dep : Nat → Int} (h : pK A P N M Ln dep) (k : ∀ f, 34 ≤ f → f ≤ 46 → A9 f P = A f P) : pK A9 P N M Ln dep := ⟨h.1, h.2.1, h.2.2.1, fun i hi => (h.2.2.2.1 i hi).fam2 k, h.2.2.2.2.fam k⟩
theorem Pok.fam {A A9 : mA} {P : Nat} (h : Pok A P) (k : ∀ f, 34 ≤ f → f ≤ 46 → A9 f P = A f P) (e : A9 5 0 P = A 5 0 P) : Pok A9 P := by
  obtain ⟨M, Ln, dep, h⟩ := h
  exact ⟨M, Ln, dep, by rw [e]; exact h.fam k⟩
theorem Pok.mk {A : mA} {P : Nat} {x M Ln : Int} {dep : Nat → Int} (h : A 5 0 P = x) (k : pK A P x M Ln dep) : Pok A P := ⟨M, Ln, dep, by rw [h]; exact k⟩
def prg (P f k j : Nat) : Bool := (f == 0 && (j == 0 || (Nat.ble 22 j && Nat.ble j 31))) || ((Nat.ble 5 f && (Nat.ble f 7 && j == P)) || (Nat.ble 34 f && (Nat.ble f 47 && k == P)))
theorem pm_prg (P : Nat) : ∀ f k j, prg P f k j = false → pm P f k j = false := by
  intro f k j h
  simp only [prg, pm, Bool.or_eq_false_iff] at h ⊢
  obtain ⟨h1, h2, h3⟩ := h
  refine ⟨?_, ?_⟩
  · cases e : f == 0 with
    | false => rfl
    | true =>
      rw [e] at h1
      simp only [Bool.true_and, Bool.or_eq_false_iff] at h1
      by_cases hj : 23 ≤ j
      · rw [Nat.ble_eq.mpr (show 22 ≤ j by omega)] at h1
        rw [Nat.ble_eq.mpr hj]
        exact h1.2
      · cases e2 : Nat.ble 23 j with
        | true => exact absurd (Nat.ble_eq.mp e2) hj
        | false => rfl
  · by_cases hf : 34 ≤ f ∧ f ≤ 46
    · rw [Nat.ble_eq.mpr hf.1, Nat.ble_eq.mpr (show f ≤ 47 by omega)] at h3
      rw [Nat.ble_eq.mpr hf.1, Nat.ble_eq.mpr hf.2]
      exact h3
    · by_cases hf2 : 34 ≤ f
      · cases e2 : Nat.ble f 46 with
        | true => exact absurd (Nat.ble_eq.mp e2) (by omega)
        | false => simp
      · cases e2 : Nat.ble 34 f with
        | true => exact absurd (Nat.ble_eq.mp e2) hf2
        | false => rfl
theorem nm_prg (P : Nat) : ∀ f k j, prg P f k j = false → nm f k j = false := fun f k j h => nm_pm P f k j (pm_prg P f k j h)
theorem prg_row {P p f : Nat} (hp : p ≠ P) (h1 : 34 ≤ f) (j : Nat) : prg P f p j = false := by
  unfold prg
  have a1 : (f == 0) = false := by simp; omega
  have a2 : (p == P) = false := by simp [hp]
  have a3 : Nat.ble f 7 = false := by cases e : Nat.ble f 7 with
    | true => exact absurd (Nat.ble_eq.mp e) (by omega)
    | false => rfl
  rw [a1, a2, a3]
  simp
theorem mI.prog {A A9 : mA} {P : Nat} (h : mI A) (k : mEq (prg P) A A9) (e : A 0 0 0 = (P : Int)) (q : A9 0 0 0 = (P : Int) ∨ A9 0 0 0 = (P : Int) + 1 ∧ Pok A9 P) : mI A9 := by
  refine ⟨fun p hp => ?_, ?_, fun c => ?_⟩
  · by_cases c : p = P
    · subst c
      rcases q with q | q
      · omega
      · exact q.2
    · exact (h.1 p (by rcases q with q | q <;> omega)).fam (fun f h1 h2 => funext fun j => k f p j (prg_row c h1 j)) (k 5 0 p (by
        unfold prg
        have : (p == P) = false := by simp [c]
        rw [this]; rfl))
  · have e37 := k 0 0 37 rfl
    have := h.2.1
    rcases q with q | q <;> omega
  · have e51 : A9 51 c = A 51 c := funext fun j => k 51 c j rfl
    rw [e51]
    exact h.2.2 c
theorem ior0 : iOr 0 0 = 0 := by decide
theorem ior1 : iOr 0 1 = 1 := by decide
theorem ior2 : iOr 1 0 = 1 := by decide
theorem ior3 : iOr 1 1 = 1 := by decide
theorem f_q_program_0_1 : mblkB b_Mo_program [(0, .aload_n 0, vi 0)] = true := by decide +kernel
theorem e_q_program_1 : decode b_Mo_program 1 = .ok (.getfield 105, 3) := by decide +kernel
theorem f_q_program_4_1 : mblkB b_Mo_program [(4, .bipush 6, vi 6)] = true := by decide +kernel
theorem e_q_program_6 : decode b_Mo_program 6 = .ok (.if_icmp .ne 6, 3) := by decide +kernel
theorem f_q_program_12_2 : mblkB b_Mo_program [(12, .aload_n 0, vi 0), (13, .iconst 0, vi 0)] = true := by decide +kernel
theorem e_q_program_14 : decode b_Mo_program 14 = .ok (.putfield 125, 3) := by decide +kernel
theorem f_q_program_17_2 : mblkB b_Mo_program [(17, .aload_n 0, vi 0), (18, .iconst 0, vi 0)] = true := by decide +kernel
theorem e_q_program_19 : decode b_Mo_program 19 = .ok (.putfield 182, 3) := by decide +kernel
theorem f_q_program_22_2 : mblkB b_Mo_program [(22, .aload_n 0, vi 0), (23, .iconst 0, vi 0)] = true := by decide +kernel
theorem e_q_program_24 : decode b_Mo_program 24 = .ok (.putfield 192, 3) := by decide +kernel
theorem f_q_program_27_2 : mblkB b_Mo_program [(27, .aload_n 0, vi 0), (28, .iconst 0, vi 0)] = true := by decide +kernel
theorem e_q_program_29 : decode b_Mo_program 29 = .ok (.putfield 195, 3) := by decide +kernel
theorem f_q_program_32_2 : mblkB b_Mo_program [(32, .aload_n 0, vi 0), (33, .iconst 0, vi 0)] = true := by decide +kernel
theorem e_q_program_34 : decode b_Mo_program 34 = .ok (.putfield 212, 3) := by decide +kernel
theorem f_q_program_37_2 : mblkB b_Mo_program [(37, .aload_n 0, vi 0), (38, .iconst 0, vi 0)] = true := by decide +kernel
theorem e_q_program_39 : decode b_Mo_program 39 = .ok (.putfield 155, 3) := by decide +kernel
theorem f_q_program_42_1 : mblkB b_Mo_program [(42, .aload_n 0, vi 0)] = true := by decide +kernel
theorem e_q_program_43 : decode b_Mo_program 43 = .ok (.invokevirtual 176, 3) := by decide +kernel
theorem f_q_program_46_1 : mblkB b_Mo_program [(46, .aload_n 0, vi 0)] = true := by decide +kernel
theorem e_q_program_47 : decode b_Mo_program 47 = .ok (.invokevirtual 185, 3) := by decide +kernel
theorem f_q_program_50_2 : mblkB b_Mo_program [(50, .aload_n 0, vi 0), (51, .dup, vi 0)] = true := by decide +kernel
theorem e_q_program_52 : decode b_Mo_program 52 = .ok (.getfield 155, 3) := by decide +kernel
theorem f_q_program_55_1 : mblkB b_Mo_program [(55, .aload_n 0, vi 0)] = true := by decide +kernel
theorem e_q_program_56 : decode b_Mo_program 56 = .ok (.getfield 159, 3) := by decide +kernel
theorem e_q_program_59 : decode b_Mo_program 59 = .ok (.ifCond .eq 7, 3) := by decide +kernel
theorem f_q_program_66_2 : mblkB b_Mo_program [(66, .iconst 0, vi 0), (67, .ior, vi 0)] = true := by decide +kernel
theorem e_q_program_68 : decode b_Mo_program 68 = .ok (.putfield 155, 3) := by decide +kernel
theorem f_q_program_71_2 : mblkB b_Mo_program [(71, .aload_n 0, vi 0), (72, .iconst 0, vi 0)] = true := by decide +kernel
theorem e_q_program_73 : decode b_Mo_program 73 = .ok (.putfield 116, 3) := by decide +kernel
theorem f_q_program_76_1 : mblkB b_Mo_program [(76, .aload_n 0, vi 0)] = true := by decide +kernel
theorem e_q_program_77 : decode b_Mo_program 77 = .ok (.getfield 155, 3) := by decide +kernel
theorem e_q_program_80 : decode b_Mo_program 80 = .ok (.ifCond .eq 11, 3) := by decide +kernel
theorem f_q_program_91_1 : mblkB b_Mo_program [(91, .aload_n 0, vi 0)] = true := by decide +kernel
theorem e_q_program_92 : decode b_Mo_program 92 = .ok (.getfield 9, 3) := by decide +kernel
theorem f_q_program_95_1 : mblkB b_Mo_program [(95, .aload_n 0, vi 0)] = true := by decide +kernel
theorem e_q_program_96 : decode b_Mo_program 96 = .ok (.getfield 105, 3) := by decide +kernel
theorem f_q_program_99_1 : mblkB b_Mo_program [(99, .aload_n 0, vi 0)] = true := by decide +kernel
theorem e_q_program_100 : decode b_Mo_program 100 = .ok (.getfield 192, 3) := by decide +kernel
theorem e_q_program_103 : decode b_Mo_program 103 = .ok (.iastore, 1) := by decide +kernel
theorem f_q_program_104_1 : mblkB b_Mo_program [(104, .aload_n 0, vi 0)] = true := by decide +kernel
theorem e_q_program_105 : decode b_Mo_program 105 = .ok (.getfield 13, 3) := by decide +kernel
theorem f_q_program_108_1 : mblkB b_Mo_program [(108, .aload_n 0, vi 0)] = true := by decide +kernel
theorem e_q_program_109 : decode b_Mo_program 109 = .ok (.getfield 105, 3) := by decide +kernel
theorem f_q_program_112_2 : mblkB b_Mo_program [(112, .aload_n 0, vi 0), (113, .aload_n 0, vi 0)] = true := by decide +kernel
theorem e_q_program_114 : decode b_Mo_program 114 = .ok (.getfield 105, 3) := by decide +kernel
theorem f_q_program_117_2 : mblkB b_Mo_program [(117, .iconst 0, vi 0), (118, .aload_n 0, vi 0)] = true := by decide +kernel
theorem e_q_program_119 : decode b_Mo_program 119 = .ok (.getfield 192, 3) := by decide +kernel
theorem e_q_program_122 : decode b_Mo_program 122 = .ok (.invokevirtual 240, 3) := by decide +kernel
theorem e_q_program_125 : decode b_Mo_program 125 = .ok (.iastore, 1) := by decide +kernel
theorem f_q_program_126_1 : mblkB b_Mo_program [(126, .aload_n 0, vi 0)] = true := by decide +kernel
theorem e_q_program_127 : decode b_Mo_program 127 = .ok (.getfield 16, 3) := by decide +kernel
theorem f_q_program_130_1 : mblkB b_Mo_program [(130, .aload_n 0, vi 0)] = true := by decide +kernel
theorem e_q_program_131 : decode b_Mo_program 131 = .ok (.getfield 105, 3) := by decide +kernel
theorem f_q_program_134_2 : mblkB b_Mo_program [(134, .aload_n 0, vi 0), (135, .aload_n 0, vi 0)] = true := by decide +kernel
theorem e_q_program_136 : decode b_Mo_program 136 = .ok (.getfield 105, 3) := by decide +kernel
theorem f_q_program_139_2 : mblkB b_Mo_program [(139, .iconst 0, vi 0), (140, .aload_n 0, vi 0)] = true := by decide +kernel
theorem e_q_program_141 : decode b_Mo_program 141 = .ok (.getfield 192, 3) := by decide +kernel
theorem e_q_program_144 : decode b_Mo_program 144 = .ok (.invokevirtual 251, 3) := by decide +kernel
theorem e_q_program_147 : decode b_Mo_program 147 = .ok (.iastore, 1) := by decide +kernel
theorem f_q_program_148_1 : mblkB b_Mo_program [(148, .aload_n 0, vi 0)] = true := by decide +kernel
theorem e_q_program_149 : decode b_Mo_program 149 = .ok (.getfield 13, 3) := by decide +kernel
theorem f_q_program_152_1 : mblkB b_Mo_program [(152, .aload_n 0, vi 0)] = true := by decide +kernel
theorem e_q_program_153 : decode b_Mo_program 153 = .ok (.getfield 105, 3) := by decide +kernel
theorem e_q_program_156 : decode b_Mo_program 156 = .ok (.iaload, 1) := by decide +kernel
theorem f_q_program_157_1 : mblkB b_Mo_program [(157, .bipush 50, vi 50)] = true := by decide +kernel
theorem e_q_program_159 : decode b_Mo_program 159 = .ok (.if_icmp .gt 17, 3) := by decide +kernel
theorem f_q_program_176_1 : mblkB b_Mo_program [(176, .bipush (-4), vi (-4))] = true := by decide +kernel
theorem e_q_program_178 : decode b_Mo_program 178 = .ok (.ireturn, 1) := by decide +kernel
theorem f_q_program_162_1 : mblkB b_Mo_program [(162, .aload_n 0, vi 0)] = true := by decide +kernel
theorem e_q_program_163 : decode b_Mo_program 163 = .ok (.getfield 16, 3) := by decide +kernel
theorem f_q_program_166_1 : mblkB b_Mo_program [(166, .aload_n 0, vi 0)] = true := by decide +kernel
theorem e_q_program_167 : decode b_Mo_program 167 = .ok (.getfield 105, 3) := by decide +kernel
theorem e_q_program_170 : decode b_Mo_program 170 = .ok (.iaload, 1) := by decide +kernel
theorem f_q_program_171_1 : mblkB b_Mo_program [(171, .bipush 60, vi 60)] = true := by decide +kernel
theorem e_q_program_173 : decode b_Mo_program 173 = .ok (.if_icmp .le 6, 3) := by decide +kernel
theorem f_q_program_179_4 : mblkB b_Mo_program [(179, .iconst 0, vi 0), (180, .istore_n 1, vi 0), (181, .iload_n 1, vi 0), (182, .bipush 10, vi 10)] = true := by decide +kernel
theorem e_q_program_184 : decode b_Mo_program 184 = .ok (.if_icmp .ge 21, 3) := by decide +kernel
theorem f_q_program_187_1 : mblkB b_Mo_program [(187, .aload_n 0, vi 0)] = true := by decide +kernel
theorem e_q_program_188 : decode b_Mo_program 188 = .ok (.getfield 65, 3) := by decide +kernel
theorem f_q_program_191_1 : mblkB b_Mo_program [(191, .aload_n 0, vi 0)] = true := by decide +kernel
theorem e_q_program_192 : decode b_Mo_program 192 = .ok (.getfield 105, 3) := by decide +kernel
theorem e_q_program_195 : decode b_Mo_program 195 = .ok (.aaload, 1) := by decide +kernel
theorem f_q_program_196_2 : mblkB b_Mo_program [(196, .iload_n 1, vi 0), (197, .iconst 0, vi 0)] = true := by decide +kernel
theorem e_q_program_198 : decode b_Mo_program 198 = .ok (.bastore, 1) := by decide +kernel
theorem f_q_program_199_2 : mblkB b_Mo_program [(199, .iinc 1 1, vi 1), (202, .goto (-21), vi 181)] = true := by decide +kernel
theorem f_q_program_181_2 : mblkB b_Mo_program [(181, .iload_n 1, vi 0), (182, .bipush 10, vi 10)] = true := by decide +kernel
theorem f_q_program_205_2 : mblkB b_Mo_program [(205, .aload_n 0, vi 0), (206, .dup, vi 0)] = true := by decide +kernel
theorem e_q_program_207 : decode b_Mo_program 207 = .ok (.getfield 105, 3) := by decide +kernel
theorem f_q_program_210_2 : mblkB b_Mo_program [(210, .iconst 1, vi 1), (211, .iadd, vi 0)] = true := by decide +kernel
theorem e_q_program_212 : decode b_Mo_program 212 = .ok (.putfield 105, 3) := by decide +kernel
theorem f_q_program_215_1 : mblkB b_Mo_program [(215, .aload_n 0, vi 0)] = true := by decide +kernel
theorem e_q_program_216 : decode b_Mo_program 216 = .ok (.getfield 105, 3) := by decide +kernel
theorem f_q_program_219_2 : mblkB b_Mo_program [(219, .iconst 1, vi 1), (220, .isub, vi 0)] = true := by decide +kernel
theorem e_q_program_221 : decode b_Mo_program 221 = .ok (.ireturn, 1) := by decide +kernel
theorem f_q_program_62_2 : mblkB b_Mo_program [(62, .iconst 1, vi 1), (63, .goto 4, vi 67)] = true := by decide +kernel
theorem f_q_program_67_1 : mblkB b_Mo_program [(67, .ior, vi 0)] = true := by decide +kernel
theorem f_q_program_83_2 : mblkB b_Mo_program [(83, .bipush (-100), vi (-100)), (85, .aload_n 0, vi 0)] = true := by decide +kernel
theorem e_q_program_86 : decode b_Mo_program 86 = .ok (.getfield 128, 3) := by decide +kernel
theorem f_q_program_89_1 : mblkB b_Mo_program [(89, .isub, vi 0)] = true := by decide +kernel
theorem e_q_program_90 : decode b_Mo_program 90 = .ok (.ireturn, 1) := by decide +kernel
theorem f_q_program_9_1 : mblkB b_Mo_program [(9, .bipush (-4), vi (-4))] = true := by decide +kernel
theorem e_q_program_11 : decode b_Mo_program 11 = .ok (.ireturn, 1) := by decide +kernel
set_option maxHeartbeats 40000000 in
set_option maxRecDepth 100000 in
theorem q_program (l : Launch) (D : va_G) (B : Nat) (H0 : Heap) (ad : mAd) (A : mA) (hS : mStr D ad) (hT : mTy A)  (hI : mI A)  : mMet l D B H0 ad y_Mo_program b_Mo_program 2 (some .int) 60 3000 [vr 0 0] A (fun v9 A9 => ∃ z : Int, v9 = some (vi z) ∧ mTy A9 ∧ mEq (prg (A 0 0 0).toNat) A A9 ∧ (mI A9) ∧ (-300 ≤ z ∧ z ≤ 5)) := by
  refine m_met (by decide) rfl (fun g w0 C Rm Y E => ?_)
  show JM g D ad w0 A 0 [(0, vr 0 0)] []
  obtain ⟨p0, hp0⟩ : ∃ x, A 0 0 0 = x := ⟨_, rfl⟩
  have rp0 : 0 ≤ p0 ∧ p0 ≤ 6 := mrg hT hp0 rfl
  have rt : 0 ≤ A 0 0 22 ∧ A 0 0 22 ≤ 120 := hT 0 0 22
  have hE0 : mEq (prg p0.toNat) A A := mEq.rfl'
  refine m_blk 1 [(0, vr 0 0)] [vr 0 0] C f_q_program_0_1 rfl ?_
  refine m_geti C e_q_program_1 fg_Mo_105 rfl (by decide) rfl p0 hp0 ?_
  refine m_blk 6 [(0, vr 0 0)] [vi 6, vi p0] C f_q_program_4_1 rfl ?_
  refine m_icmp_ne (tgt := 12) C e_q_program_6 (by decide) (by omega) (by decide) (fun c1 => ?_) (fun c1 => ?_)
  · refine m_blk 14 [(0, vr 0 0)] [vi 0, vr 0 0] C f_q_program_12_2 rfl ?_
    refine m_puti C e_q_program_14 fp_Mo_125 rfl (by decide) rfl ?_
    have t2 : mTy (mu A 0 0 23 0) := hT.mu (by show 0 ≤ 0 ∧ 0 ≤ 120; omega)
    have q3 := hE0.mu (f := 0) (k := 0) (j := 23) (z := 0) (by simp [prg])
    refine m_blk 19 [(0, vr 0 0)] [vi 0, vr 0 0] C f_q_program_17_2 rfl ?_
    refine m_puti C e_q_program_19 fp_Mo_182 rfl (by decide) rfl ?_
    have t4 : mTy (mu (mu A 0 0 23 0) 0 0 27 0) := t2.mu (by show 0 ≤ 0 ∧ 0 ≤ 4; omega)
    have q5 := q3.mu (f := 0) (k := 0) (j := 27) (z := 0) (by simp [prg])
    refine m_blk 24 [(0, vr 0 0)] [vi 0, vr 0 0] C f_q_program_22_2 rfl ?_
    refine m_puti C e_q_program_24 fp_Mo_192 rfl (by decide) rfl ?_
    have t6 : mTy (mu (mu (mu A 0 0 23 0) 0 0 27 0) 0 0 28 0) := t4.mu (by show 0 ≤ 0 ∧ 0 ≤ 16; omega)
    have q7 := q5.mu (f := 0) (k := 0) (j := 28) (z := 0) (by simp [prg])
    refine m_blk 29 [(0, vr 0 0)] [vi 0, vr 0 0] C f_q_program_27_2 rfl ?_
    refine m_puti C e_q_program_29 fp_Mo_195 rfl (by decide) rfl ?_
    have t8 : mTy (mu (mu (mu (mu A 0 0 23 0) 0 0 27 0) 0 0 28 0) 0 0 29 0) := t6.mu (by show 0 ≤ 0 ∧ 0 ≤ 40; omega)
    have q9 := q7.mu (f := 0) (k := 0) (j := 29) (z := 0) (by simp [prg])
    refine m_blk 34 [(0, vr 0 0)] [vi 0, vr 0 0] C f_q_program_32_2 rfl ?_
    refine m_puti C e_q_program_34 fp_Mo_212 rfl (by decide) rfl ?_
    have t10 : mTy (mu (mu (mu (mu (mu A 0 0 23 0) 0 0 27 0) 0 0 28 0) 0 0 29 0) 0 0 30 0) := t8.mu (by show 0 ≤ 0 ∧ 0 ≤ 120; omega)
    have q11 := q9.mu (f := 0) (k := 0) (j := 30) (z := 0) (by simp [prg])
    refine m_blk 39 [(0, vr 0 0)] [vi 0, vr 0 0] C f_q_program_37_2 rfl ?_
    refine m_putz C e_q_program_39 fp_Mo_155 rfl (by decide) rfl (Or.inl rfl) ?_
    have t12 : mTy (mu (mu (mu (mu (mu (mu A 0 0 23 0) 0 0 27 0) 0 0 28 0) 0 0 29 0) 0 0 30 0) 0 0 31 0) := t10.mu (by show 0 ≤ 0 ∧ 0 ≤ 1; omega)
    have q13 := q11.mu (f := 0) (k := 0) (j := 31) (z := 0) (by simp [prg])
    refine m_blk 43 [(0, vr 0 0)] [vr 0 0] C f_q_program_42_1 rfl ?_
    refine m_callV C Rm Y [] [] (q_next l D B H0 ad _ hS t12 (by show 0 ≤ A 0 0 22; omega)) cl_Mo_176 rfl (by decide) rfl rfl e_q_program_43 rfl rfl rfl ⟨by decide, by decide⟩ ?_
    rintro v14 A15 ⟨rfl, hT_n17, hE_n17, raw_hw_n17, raw_hb_n17⟩
    have hF_n17 := q13.trans (hE_n17.sub (nm_prg _))
    show JM g D ad w0 A15 46 [(0, vr 0 0)] []
    obtain ⟨b1_n17, b2_n17, b3_n17, pt_n17⟩ : 0 ≤ A15 0 0 24 ∧ A15 0 0 24 ≤ A15 0 0 23 ∧ A15 0 0 23 ≤ A15 0 0 22 ∧ pT A15 := raw_hb_n17 rfl
    clear raw_hb_n17 raw_hw_n17
    have k0_n17 : A15 0 0 0 = A 0 0 0 := hE_n17 0 0 0 rfl
    have k22_n17 : A15 0 0 22 = A 0 0 22 := hE_n17 0 0 22 rfl
    have k27_n17 : A15 0 0 27 = 0 := hE_n17 0 0 27 rfl
    have k28_n17 : A15 0 0 28 = 0 := hE_n17 0 0 28 rfl
    have k29_n17 : A15 0 0 29 = 0 := hE_n17 0 0 29 rfl
    have k30_n17 : A15 0 0 30 = 0 := hE_n17 0 0 30 rfl
    rcases (show A15 0 0 31 = 0 ∨ A15 0 0 31 = 1 from by have w9 := hT_n17 0 0 31; have w8 : 0 ≤ A15 0 0 31 ∧ A15 0 0 31 ≤ 1 := w9; omega) with g_n17 | g_n17
    · refine m_blk 47 [(0, vr 0 0)] [vr 0 0] C f_q_program_46_1 rfl ?_
      refine m_callV C Rm Y [] [] ((q_B 4) l D B H0 ad _ hS hT_n17 p0 (by show A15 0 0 0 = p0 ∧ 0 ≤ p0 ∧ p0 ≤ 5; omega) (by show A15 0 0 24 ≤ A15 0 0 23 ∧ A15 0 0 23 ≤ A15 0 0 22; omega) pt_n17 (fun _ => by show A15 0 0 30 + 3 * A15 0 0 29 ≤ A15 0 0 24; omega) (fun e9 he9 => absurd he9 (by omega)) (by show A15 0 0 27 = 4 - ((4 : Nat) : Int) ∧ ((4 : Nat) : Int) ≤ 4; omega)) cl_Mo_185 rfl (by decide) rfl rfl e_q_program_47 rfl rfl rfl ⟨by decide, by decide⟩ ?_
      rintro v18 A19 ⟨rfl, hT_n21, hE_n21, raw_hb_n21, raw_hn_n21, raw_hw_n21, raw_hm_n21, raw_hG_n21, raw_hQ_n21⟩
      have hF_n21 := hF_n17.trans (hE_n21.sub (pm_prg _))
      show JM g D ad w0 A19 50 [(0, vr 0 0)] []
      have hb_n21 : A19 0 0 24 ≤ A19 0 0 23 ∧ A19 0 0 23 ≤ A19 0 0 22 := raw_hb_n21
      clear raw_hb_n21
      have hm_n21 : A15 0 0 24 ≤ A19 0 0 24 ∧ A15 0 0 28 ≤ A19 0 0 28 ∧ A15 0 0 29 ≤ A19 0 0 29 ∧ A15 0 0 30 ≤ A19 0 0 30 ∧ A19 0 0 27 = A15 0 0 27 := raw_hm_n21
      clear raw_hm_n21
      have k0_n21 : A19 0 0 0 = A15 0 0 0 := hE_n21 0 0 0 rfl
      have k22_n21 : A19 0 0 22 = A15 0 0 22 := hE_n21 0 0 22 rfl
      have kp_n21 : A19 0 0 0 = p0 := by omega
      have hG_n21 : nG p0.toNat A19 := raw_hG_n21
      have hV_n21 : pV p0.toNat (4 - ((4 : Nat) : Int)) A15 A19 := raw_hw_n21
      clear raw_hw_n21 raw_hQ_n21
      rcases (show A19 0 0 31 = 0 ∨ A19 0 0 31 = 1 from by have w9 := hT_n21 0 0 31; have w8 : 0 ≤ A19 0 0 31 ∧ A19 0 0 31 ≤ 1 := w9; omega) with g_n21 | g_n21
      · obtain ⟨dep, hB_n21⟩ := (hV_n21 g_n21).2.2.2
        obtain ⟨NS, hNS⟩ : ∃ x, A19 0 0 28 = x := ⟨_, rfl⟩
        have rNS : 0 ≤ NS ∧ NS ≤ 16 := mrg hT_n21 hNS rfl
        have hK_n21 : pK A19 p0.toNat NS (A19 0 0 30) (A19 0 0 29) dep := ⟨rNS, hT_n21 0 0 30, hT_n21 0 0 29, fun i hi => hNS ▸ (hB_n21 i (by show A15 0 0 28 ≤ (i : Int); omega) (by omega)).1, hG_n21⟩
        refine m_blk 52 [(0, vr 0 0)] [vr 0 0, vr 0 0] C f_q_program_50_2 rfl ?_
        refine m_geti C e_q_program_52 fg_Mo_155 rfl (by decide) rfl 0 g_n21 ?_
        refine m_blk 56 [(0, vr 0 0)] [vr 0 0, vi 0, vr 0 0] C f_q_program_55_1 rfl ?_
        obtain ⟨x22, hx22⟩ : ∃ x, A19 0 0 25 = x := ⟨_, rfl⟩
        have rx22 : 0 ≤ x22 ∧ x22 ≤ 4 := mrg hT_n21 hx22 rfl
        refine m_geti C e_q_program_56 fg_Mo_159 rfl (by decide) rfl x22 hx22 ?_
        refine m_if_eq (tgt := 66) C e_q_program_59 (by decide) (by omega) (fun c23 => ?_) (fun c23 => ?_)
        · refine m_blk 68 [(0, vr 0 0)] [vi (iOr 0 0), vr 0 0] C f_q_program_66_2 rfl ?_
          rw [ior0]
          refine m_putz C e_q_program_68 fp_Mo_155 rfl (by decide) rfl (Or.inl rfl) ?_
          have t24 : mTy (mu A19 0 0 31 0) := hT_n21.mu (by show 0 ≤ 0 ∧ 0 ≤ 1; omega)
          have q25 := hF_n21.mu (f := 0) (k := 0) (j := 31) (z := 0) (by simp [prg])
          refine m_blk 73 [(0, vr 0 0)] [vi 0, vr 0 0] C f_q_program_71_2 rfl ?_
          refine m_puti C e_q_program_73 fp_Mo_116 rfl (by decide) rfl ?_
          have t26 : mTy (mu (mu A19 0 0 31 0) 0 0 22 0) := t24.mu (by show 0 ≤ 0 ∧ 0 ≤ 120; omega)
          have q27 := q25.mu (f := 0) (k := 0) (j := 22) (z := 0) (by simp [prg])
          refine m_blk 77 [(0, vr 0 0)] [vr 0 0] C f_q_program_76_1 rfl ?_
          refine m_geti C e_q_program_77 fg_Mo_155 rfl (by decide) rfl 0 rfl ?_
          refine m_if_eq (tgt := 91) C e_q_program_80 (by decide) (by decide) (fun c28 => ?_) (fun c28 => (by omega : False).elim)
          refine m_blk 92 [(0, vr 0 0)] [vr 0 0] C f_q_program_91_1 rfl ?_
          refine m_getr C e_q_program_92 fg_Mo_9 rfl (by decide) rfl ?_
          refine m_blk 96 [(0, vr 0 0)] [vr 0 0, vr 5 0] C f_q_program_95_1 rfl ?_
          refine m_geti C e_q_program_96 fg_Mo_105 rfl (by decide) rfl p0 kp_n21 ?_
          refine m_blk 100 [(0, vr 0 0)] [vr 0 0, vi p0, vr 5 0] C f_q_program_99_1 rfl ?_
          refine m_geti C e_q_program_100 fg_Mo_192 rfl (by decide) rfl NS hNS ?_
          refine m_iast C e_q_program_103 rfl (by decide) (by decide) (by omega) (by show p0 < ((6 : Nat) : Int); omega) ?_
          have t29 : mTy (mu (mu (mu A19 0 0 31 0) 0 0 22 0) 5 0 p0.toNat NS) := t26.mu (by show 0 ≤ NS ∧ NS ≤ 16; omega)
          have q30 := q27.mu (f := 5) (k := 0) (j := p0.toNat) (z := NS) (by simp [prg])
          refine m_blk 105 [(0, vr 0 0)] [vr 0 0] C f_q_program_104_1 rfl ?_
          refine m_getr C e_q_program_105 fg_Mo_13 rfl (by decide) rfl ?_
          refine m_blk 109 [(0, vr 0 0)] [vr 0 0, vr 6 0] C f_q_program_108_1 rfl ?_
          refine m_geti C e_q_program_109 fg_Mo_105 rfl (by decide) rfl p0 kp_n21 ?_
          refine m_blk 114 [(0, vr 0 0)] [vr 0 0, vr 0 0, vi p0, vr 6 0] C f_q_program_112_2 rfl ?_
          refine m_geti C e_q_program_114 fg_Mo_105 rfl (by decide) rfl p0 kp_n21 ?_
          refine m_blk 119 [(0, vr 0 0)] [vr 0 0, vi 0, vi p0, vr 0 0, vi p0, vr 6 0] C f_q_program_117_2 rfl ?_
          refine m_geti C e_q_program_119 fg_Mo_192 rfl (by decide) rfl NS hNS ?_
          refine m_callV C Rm Y [vi p0, vi 0, vi NS] [vi p0, vr 6 0] ((q_bitsOf_ 17).1 l D B H0 ad _ t29 NS (A19 0 0 30) (A19 0 0 29) dep p0 0 NS (by show 0 ≤ p0 ∧ p0 ≤ 5; omega) (pK.fam hK_n21 (fun f9 h8 h9 => ((mu_fk (mu (mu A19 0 0 31 0) 0 0 22 0) p0.toNat NS (fun q9 => by omega)).trans (mu_fk (mu A19 0 0 31 0) 22 0 (fun q9 => by omega))).trans (mu_fk A19 31 0 (fun q9 => by omega)))) (by show 0 ≤ 0 ∧ 0 ≤ 16 ∧ 0 ≤ NS ∧ NS ≤ NS ∧ 17 - 0 ≤ ((17 : Nat) : Int); omega)) cl_Mo_240 rfl (by decide) rfl rfl e_q_program_122 rfl rfl rfl ⟨by decide, by decide⟩ ?_
          rintro v31 A32 ⟨z35, rfl, rfl, raw_hz_n34⟩
          have hz_n34 : -2147483648 ≤ z35 ∧ z35 ≤ 2147483647 := raw_hz_n34
          clear raw_hz_n34
          show JM g D ad w0 (mu (mu (mu A19 0 0 31 0) 0 0 22 0) 5 0 p0.toNat NS) 125 [(0, vr 0 0)] [vi z35, vi p0, vr 6 0]
          refine m_iast C e_q_program_125 rfl (by decide) (by decide) (by omega) (by show p0 < ((6 : Nat) : Int); omega) ?_
          have t36 : mTy (mu (mu (mu (mu A19 0 0 31 0) 0 0 22 0) 5 0 p0.toNat NS) 6 0 p0.toNat z35) := t29.mu (by show (-2147483648) ≤ z35 ∧ z35 ≤ 2147483647; omega)
          have q37 := q30.mu (f := 6) (k := 0) (j := p0.toNat) (z := z35) (by simp [prg])
          refine m_blk 127 [(0, vr 0 0)] [vr 0 0] C f_q_program_126_1 rfl ?_
          refine m_getr C e_q_program_127 fg_Mo_16 rfl (by decide) rfl ?_
          refine m_blk 131 [(0, vr 0 0)] [vr 0 0, vr 7 0] C f_q_program_130_1 rfl ?_
          refine m_geti C e_q_program_131 fg_Mo_105 rfl (by decide) rfl p0 kp_n21 ?_
          refine m_blk 136 [(0, vr 0 0)] [vr 0 0, vr 0 0, vi p0, vr 7 0] C f_q_program_134_2 rfl ?_
          refine m_geti C e_q_program_136 fg_Mo_105 rfl (by decide) rfl p0 kp_n21 ?_
          refine m_blk 141 [(0, vr 0 0)] [vr 0 0, vi 0, vi p0, vr 0 0, vi p0, vr 7 0] C f_q_program_139_2 rfl ?_
          refine m_geti C e_q_program_141 fg_Mo_192 rfl (by decide) rfl NS hNS ?_
          refine m_callV C Rm Y [vi p0, vi 0, vi NS] [vi p0, vr 7 0] ((q_turnsOf_ 17).1 l D B H0 ad _ t36 NS (A19 0 0 30) (A19 0 0 29) dep p0 0 NS (by show 0 ≤ p0 ∧ p0 ≤ 5; omega) (pK.fam hK_n21 (fun f9 h8 h9 => (((mu_fk (mu (mu (mu A19 0 0 31 0) 0 0 22 0) 5 0 p0.toNat NS) p0.toNat z35 (fun q9 => by omega)).trans (mu_fk (mu (mu A19 0 0 31 0) 0 0 22 0) p0.toNat NS (fun q9 => by omega))).trans (mu_fk (mu A19 0 0 31 0) 22 0 (fun q9 => by omega))).trans (mu_fk A19 31 0 (fun q9 => by omega)))) (by show 0 ≤ 0 ∧ 0 ≤ 16 ∧ 0 ≤ NS ∧ NS ≤ NS ∧ 17 - 0 ≤ ((17 : Nat) : Int); omega)) cl_Mo_251 rfl (by decide) rfl rfl e_q_program_144 rfl rfl rfl ⟨by decide, by decide⟩ ?_
          rintro v38 A39 ⟨z42, rfl, rfl, raw_hz_n41⟩
          have hz_n41 : -2147483648 ≤ z42 ∧ z42 ≤ 2147483647 := raw_hz_n41
          clear raw_hz_n41
          show JM g D ad w0 (mu (mu (mu (mu A19 0 0 31 0) 0 0 22 0) 5 0 p0.toNat NS) 6 0 p0.toNat z35) 147 [(0, vr 0 0)] [vi z42, vi p0, vr 7 0]
          refine m_iast C e_q_program_147 rfl (by decide) (by decide) (by omega) (by show p0 < ((6 : Nat) : Int); omega) ?_
          have t43 : mTy (mu (mu (mu (mu (mu A19 0 0 31 0) 0 0 22 0) 5 0 p0.toNat NS) 6 0 p0.toNat z35) 7 0 p0.toNat z42) := t36.mu (by show (-2147483648) ≤ z42 ∧ z42 ≤ 2147483647; omega)
          have q44 := q37.mu (f := 7) (k := 0) (j := p0.toNat) (z := z42) (by simp [prg])
          refine m_blk 149 [(0, vr 0 0)] [vr 0 0] C f_q_program_148_1 rfl ?_
          refine m_getr C e_q_program_149 fg_Mo_13 rfl (by decide) rfl ?_
          refine m_blk 153 [(0, vr 0 0)] [vr 0 0, vr 6 0] C f_q_program_152_1 rfl ?_
          refine m_geti C e_q_program_153 fg_Mo_105 rfl (by decide) rfl p0 kp_n21 ?_
          obtain ⟨x45, hx45⟩ : ∃ x, (mu (mu (mu (mu (mu A19 0 0 31 0) 0 0 22 0) 5 0 p0.toNat NS) 6 0 p0.toNat z35) 7 0 p0.toNat z42) 6 0 p0.toNat = x := ⟨_, rfl⟩
          have rx45 : (-2147483648) ≤ x45 ∧ x45 ≤ 2147483647 := mrg t43 hx45 rfl
          refine m_iald C e_q_program_156 rfl (by decide) (by decide) (by omega) (by show p0 < ((6 : Nat) : Int); omega) x45 hx45 ?_
          refine m_blk 159 [(0, vr 0 0)] [vi 50, vi x45] C f_q_program_157_1 rfl ?_
          refine m_icmp_gt (tgt := 176) C e_q_program_159 (by decide) (by omega) (by decide) (fun c46 => ?_) (fun c46 => ?_)
          · refine m_blk 178 [(0, vr 0 0)] [vi (-4)] C f_q_program_176_1 rfl ?_
            exact m_iret C Rm E e_q_program_178 ⟨(-4), rfl, t43, (show mEq (prg (A 0 0 0).toNat) A _ from hp0.symm ▸ q44), (mI.prog (P := p0.toNat) hI q44 (by omega) (Or.inl (by show A19 0 0 0 = _; omega))), (by show -300 ≤ (-4) ∧ (-4) ≤ 5; omega)⟩
          · refine m_blk 163 [(0, vr 0 0)] [vr 0 0] C f_q_program_162_1 rfl ?_
            refine m_getr C e_q_program_163 fg_Mo_16 rfl (by decide) rfl ?_
            refine m_blk 167 [(0, vr 0 0)] [vr 0 0, vr 7 0] C f_q_program_166_1 rfl ?_
            refine m_geti C e_q_program_167 fg_Mo_105 rfl (by decide) rfl p0 kp_n21 ?_
            refine m_iald C e_q_program_170 rfl (by decide) (by decide) (by omega) (by show p0 < ((6 : Nat) : Int); omega) z42 (mu_at _ _ _ _ _) ?_
            refine m_blk 173 [(0, vr 0 0)] [vi 60, vi z42] C f_q_program_171_1 rfl ?_
            refine m_icmp_le (tgt := 179) C e_q_program_173 (by decide) (by omega) (by decide) (fun c47 => ?_) (fun c47 => ?_)
            · refine m_blk 184 [(1, vi 0), (0, vr 0 0)] [vi 10, vi 0] C f_q_program_179_4 rfl ?_
              refine m_icmp_ge (tgt := 205) C e_q_program_184 (by decide) (by decide) (by decide) (fun c48 => (by omega : False).elim) (fun c48 => ?_)
              refine m_blk 188 [(1, vi 0), (0, vr 0 0)] [vr 0 0] C f_q_program_187_1 rfl ?_
              refine m_getr C e_q_program_188 fg_Mo_65 rfl (by decide) rfl ?_
              refine m_blk 192 [(1, vi 0), (0, vr 0 0)] [vr 0 0, vr 27 0] C f_q_program_191_1 rfl ?_
              refine m_geti C e_q_program_192 fg_Mo_105 rfl (by decide) rfl p0 kp_n21 ?_
              refine m_aald C p0.toNat e_q_program_195 rfl rfl rfl (by decide) (by decide) (by omega) (by show p0 < ((6 : Nat) : Int); omega) (mz _ _) ?_
              refine m_blk 198 [(1, vi 0), (0, vr 0 0)] [vi 0, vi 0, vr 47 p0.toNat] C f_q_program_196_2 rfl ?_
              refine m_zast C e_q_program_198 rfl (by omega) (by decide) (by decide) (by decide) (Or.inl rfl) ?_
              have t49 : mTy (mu (mu (mu (mu (mu (mu A19 0 0 31 0) 0 0 22 0) 5 0 p0.toNat NS) 6 0 p0.toNat z35) 7 0 p0.toNat z42) 47 p0.toNat 0 0) := t43.mu (by show 0 ≤ 0 ∧ 0 ≤ 1; omega)
              have q50 := q44.mu (f := 47) (k := p0.toNat) (j := 0) (z := 0) (by simp [prg])
              refine m_blk 181 [(1, vi 1), (0, vr 0 0)] [] C f_q_program_199_2 rfl ?_
              refine m_blk 184 [(1, vi 1), (0, vr 0 0)] [vi 10, vi 1] C f_q_program_181_2 rfl ?_
              refine m_icmp_ge (tgt := 205) C e_q_program_184 (by decide) (by decide) (by decide) (fun c51 => (by omega : False).elim) (fun c51 => ?_)
              refine m_blk 188 [(1, vi 1), (0, vr 0 0)] [vr 0 0] C f_q_program_187_1 rfl ?_
              refine m_getr C e_q_program_188 fg_Mo_65 rfl (by decide) rfl ?_
              refine m_blk 192 [(1, vi 1), (0, vr 0 0)] [vr 0 0, vr 27 0] C f_q_program_191_1 rfl ?_
              refine m_geti C e_q_program_192 fg_Mo_105 rfl (by decide) rfl p0 kp_n21 ?_
              refine m_aald C p0.toNat e_q_program_195 rfl rfl rfl (by decide) (by decide) (by omega) (by show p0 < ((6 : Nat) : Int); omega) (mz _ _) ?_
              refine m_blk 198 [(1, vi 1), (0, vr 0 0)] [vi 0, vi 1, vr 47 p0.toNat] C f_q_program_196_2 rfl ?_
              refine m_zast C e_q_program_198 rfl (by omega) (by decide) (by decide) (by decide) (Or.inl rfl) ?_
              have t52 : mTy (mu (mu (mu (mu (mu (mu (mu A19 0 0 31 0) 0 0 22 0) 5 0 p0.toNat NS) 6 0 p0.toNat z35) 7 0 p0.toNat z42) 47 p0.toNat 0 0) 47 p0.toNat 1 0) := t49.mu (by show 0 ≤ 0 ∧ 0 ≤ 1; omega)
              have q53 := q50.mu (f := 47) (k := p0.toNat) (j := 1) (z := 0) (by simp [prg])
              refine m_blk 181 [(1, vi 2), (0, vr 0 0)] [] C f_q_program_199_2 rfl ?_
              refine m_blk 184 [(1, vi 2), (0, vr 0 0)] [vi 10, vi 2] C f_q_program_181_2 rfl ?_
              refine m_icmp_ge (tgt := 205) C e_q_program_184 (by decide) (by decide) (by decide) (fun c54 => (by omega : False).elim) (fun c54 => ?_)
              refine m_blk 188 [(1, vi 2), (0, vr 0 0)] [vr 0 0] C f_q_program_187_1 rfl ?_
              refine m_getr C e_q_program_188 fg_Mo_65 rfl (by decide) rfl ?_
              refine m_blk 192 [(1, vi 2), (0, vr 0 0)] [vr 0 0, vr 27 0] C f_q_program_191_1 rfl ?_
              refine m_geti C e_q_program_192 fg_Mo_105 rfl (by decide) rfl p0 kp_n21 ?_
              refine m_aald C p0.toNat e_q_program_195 rfl rfl rfl (by decide) (by decide) (by omega) (by show p0 < ((6 : Nat) : Int); omega) (mz _ _) ?_
              refine m_blk 198 [(1, vi 2), (0, vr 0 0)] [vi 0, vi 2, vr 47 p0.toNat] C f_q_program_196_2 rfl ?_
              refine m_zast C e_q_program_198 rfl (by omega) (by decide) (by decide) (by decide) (Or.inl rfl) ?_
              have t55 : mTy (mu (mu (mu (mu (mu (mu (mu (mu A19 0 0 31 0) 0 0 22 0) 5 0 p0.toNat NS) 6 0 p0.toNat z35) 7 0 p0.toNat z42) 47 p0.toNat 0 0) 47 p0.toNat 1 0) 47 p0.toNat 2 0) := t52.mu (by show 0 ≤ 0 ∧ 0 ≤ 1; omega)
              have q56 := q53.mu (f := 47) (k := p0.toNat) (j := 2) (z := 0) (by simp [prg])
              refine m_blk 181 [(1, vi 3), (0, vr 0 0)] [] C f_q_program_199_2 rfl ?_
              refine m_blk 184 [(1, vi 3), (0, vr 0 0)] [vi 10, vi 3] C f_q_program_181_2 rfl ?_
              refine m_icmp_ge (tgt := 205) C e_q_program_184 (by decide) (by decide) (by decide) (fun c57 => (by omega : False).elim) (fun c57 => ?_)
              refine m_blk 188 [(1, vi 3), (0, vr 0 0)] [vr 0 0] C f_q_program_187_1 rfl ?_
              refine m_getr C e_q_program_188 fg_Mo_65 rfl (by decide) rfl ?_
              refine m_blk 192 [(1, vi 3), (0, vr 0 0)] [vr 0 0, vr 27 0] C f_q_program_191_1 rfl ?_
              refine m_geti C e_q_program_192 fg_Mo_105 rfl (by decide) rfl p0 kp_n21 ?_
              refine m_aald C p0.toNat e_q_program_195 rfl rfl rfl (by decide) (by decide) (by omega) (by show p0 < ((6 : Nat) : Int); omega) (mz _ _) ?_
              refine m_blk 198 [(1, vi 3), (0, vr 0 0)] [vi 0, vi 3, vr 47 p0.toNat] C f_q_program_196_2 rfl ?_
              refine m_zast C e_q_program_198 rfl (by omega) (by decide) (by decide) (by decide) (Or.inl rfl) ?_
              have t58 : mTy (mu (mu (mu (mu (mu (mu (mu (mu (mu A19 0 0 31 0) 0 0 22 0) 5 0 p0.toNat NS) 6 0 p0.toNat z35) 7 0 p0.toNat z42) 47 p0.toNat 0 0) 47 p0.toNat 1 0) 47 p0.toNat 2 0) 47 p0.toNat 3 0) := t55.mu (by show 0 ≤ 0 ∧ 0 ≤ 1; omega)
              have q59 := q56.mu (f := 47) (k := p0.toNat) (j := 3) (z := 0) (by simp [prg])
              refine m_blk 181 [(1, vi 4), (0, vr 0 0)] [] C f_q_program_199_2 rfl ?_
              refine m_blk 184 [(1, vi 4), (0, vr 0 0)] [vi 10, vi 4] C f_q_program_181_2 rfl ?_
              refine m_icmp_ge (tgt := 205) C e_q_program_184 (by decide) (by decide) (by decide) (fun c60 => (by omega : False).elim) (fun c60 => ?_)
              refine m_blk 188 [(1, vi 4), (0, vr 0 0)] [vr 0 0] C f_q_program_187_1 rfl ?_
              refine m_getr C e_q_program_188 fg_Mo_65 rfl (by decide) rfl ?_
              refine m_blk 192 [(1, vi 4), (0, vr 0 0)] [vr 0 0, vr 27 0] C f_q_program_191_1 rfl ?_
              refine m_geti C e_q_program_192 fg_Mo_105 rfl (by decide) rfl p0 kp_n21 ?_
              refine m_aald C p0.toNat e_q_program_195 rfl rfl rfl (by decide) (by decide) (by omega) (by show p0 < ((6 : Nat) : Int); omega) (mz _ _) ?_
              refine m_blk 198 [(1, vi 4), (0, vr 0 0)] [vi 0, vi 4, vr 47 p0.toNat] C f_q_program_196_2 rfl ?_
              refine m_zast C e_q_program_198 rfl (by omega) (by decide) (by decide) (by decide) (Or.inl rfl) ?_
              have t61 : mTy (mu (mu (mu (mu (mu (mu (mu (mu (mu (mu A19 0 0 31 0) 0 0 22 0) 5 0 p0.toNat NS) 6 0 p0.toNat z35) 7 0 p0.toNat z42) 47 p0.toNat 0 0) 47 p0.toNat 1 0) 47 p0.toNat 2 0) 47 p0.toNat 3 0) 47 p0.toNat 4 0) := t58.mu (by show 0 ≤ 0 ∧ 0 ≤ 1; omega)
              have q62 := q59.mu (f := 47) (k := p0.toNat) (j := 4) (z := 0) (by simp [prg])
              refine m_blk 181 [(1, vi 5), (0, vr 0 0)] [] C f_q_program_199_2 rfl ?_
              refine m_blk 184 [(1, vi 5), (0, vr 0 0)] [vi 10, vi 5] C f_q_program_181_2 rfl ?_
              refine m_icmp_ge (tgt := 205) C e_q_program_184 (by decide) (by decide) (by decide) (fun c63 => (by omega : False).elim) (fun c63 => ?_)
              refine m_blk 188 [(1, vi 5), (0, vr 0 0)] [vr 0 0] C f_q_program_187_1 rfl ?_
              refine m_getr C e_q_program_188 fg_Mo_65 rfl (by decide) rfl ?_
              refine m_blk 192 [(1, vi 5), (0, vr 0 0)] [vr 0 0, vr 27 0] C f_q_program_191_1 rfl ?_
              refine m_geti C e_q_program_192 fg_Mo_105 rfl (by decide) rfl p0 kp_n21 ?_
              refine m_aald C p0.toNat e_q_program_195 rfl rfl rfl (by decide) (by decide) (by omega) (by show p0 < ((6 : Nat) : Int); omega) (mz _ _) ?_
              refine m_blk 198 [(1, vi 5), (0, vr 0 0)] [vi 0, vi 5, vr 47 p0.toNat] C f_q_program_196_2 rfl ?_
              refine m_zast C e_q_program_198 rfl (by omega) (by decide) (by decide) (by decide) (Or.inl rfl) ?_
              have t64 : mTy (mu (mu (mu (mu (mu (mu (mu (mu (mu (mu (mu A19 0 0 31 0) 0 0 22 0) 5 0 p0.toNat NS) 6 0 p0.toNat z35) 7 0 p0.toNat z42) 47 p0.toNat 0 0) 47 p0.toNat 1 0) 47 p0.toNat 2 0) 47 p0.toNat 3 0) 47 p0.toNat 4 0) 47 p0.toNat 5 0) := t61.mu (by show 0 ≤ 0 ∧ 0 ≤ 1; omega)
              have q65 := q62.mu (f := 47) (k := p0.toNat) (j := 5) (z := 0) (by simp [prg])
              refine m_blk 181 [(1, vi 6), (0, vr 0 0)] [] C f_q_program_199_2 rfl ?_
              refine m_blk 184 [(1, vi 6), (0, vr 0 0)] [vi 10, vi 6] C f_q_program_181_2 rfl ?_
              refine m_icmp_ge (tgt := 205) C e_q_program_184 (by decide) (by decide) (by decide) (fun c66 => (by omega : False).elim) (fun c66 => ?_)
              refine m_blk 188 [(1, vi 6), (0, vr 0 0)] [vr 0 0] C f_q_program_187_1 rfl ?_
              refine m_getr C e_q_program_188 fg_Mo_65 rfl (by decide) rfl ?_
              refine m_blk 192 [(1, vi 6), (0, vr 0 0)] [vr 0 0, vr 27 0] C f_q_program_191_1 rfl ?_
              refine m_geti C e_q_program_192 fg_Mo_105 rfl (by decide) rfl p0 kp_n21 ?_
              refine m_aald C p0.toNat e_q_program_195 rfl rfl rfl (by decide) (by decide) (by omega) (by show p0 < ((6 : Nat) : Int); omega) (mz _ _) ?_
              refine m_blk 198 [(1, vi 6), (0, vr 0 0)] [vi 0, vi 6, vr 47 p0.toNat] C f_q_program_196_2 rfl ?_
              refine m_zast C e_q_program_198 rfl (by omega) (by decide) (by decide) (by decide) (Or.inl rfl) ?_
              have t67 : mTy (mu (mu (mu (mu (mu (mu (mu (mu (mu (mu (mu (mu A19 0 0 31 0) 0 0 22 0) 5 0 p0.toNat NS) 6 0 p0.toNat z35) 7 0 p0.toNat z42) 47 p0.toNat 0 0) 47 p0.toNat 1 0) 47 p0.toNat 2 0) 47 p0.toNat 3 0) 47 p0.toNat 4 0) 47 p0.toNat 5 0) 47 p0.toNat 6 0) := t64.mu (by show 0 ≤ 0 ∧ 0 ≤ 1; omega)
              have q68 := q65.mu (f := 47) (k := p0.toNat) (j := 6) (z := 0) (by simp [prg])
              refine m_blk 181 [(1, vi 7), (0, vr 0 0)] [] C f_q_program_199_2 rfl ?_
              refine m_blk 184 [(1, vi 7), (0, vr 0 0)] [vi 10, vi 7] C f_q_program_181_2 rfl ?_
              refine m_icmp_ge (tgt := 205) C e_q_program_184 (by decide) (by decide) (by decide) (fun c69 => (by omega : False).elim) (fun c69 => ?_)
              refine m_blk 188 [(1, vi 7), (0, vr 0 0)] [vr 0 0] C f_q_program_187_1 rfl ?_
              refine m_getr C e_q_program_188 fg_Mo_65 rfl (by decide) rfl ?_
              refine m_blk 192 [(1, vi 7), (0, vr 0 0)] [vr 0 0, vr 27 0] C f_q_program_191_1 rfl ?_
              refine m_geti C e_q_program_192 fg_Mo_105 rfl (by decide) rfl p0 kp_n21 ?_
              refine m_aald C p0.toNat e_q_program_195 rfl rfl rfl (by decide) (by decide) (by omega) (by show p0 < ((6 : Nat) : Int); omega) (mz _ _) ?_
              refine m_blk 198 [(1, vi 7), (0, vr 0 0)] [vi 0, vi 7, vr 47 p0.toNat] C f_q_program_196_2 rfl ?_
              refine m_zast C e_q_program_198 rfl (by omega) (by decide) (by decide) (by decide) (Or.inl rfl) ?_
              have t70 : mTy (mu (mu (mu (mu (mu (mu (mu (mu (mu (mu (mu (mu (mu A19 0 0 31 0) 0 0 22 0) 5 0 p0.toNat NS) 6 0 p0.toNat z35) 7 0 p0.toNat z42) 47 p0.toNat 0 0) 47 p0.toNat 1 0) 47 p0.toNat 2 0) 47 p0.toNat 3 0) 47 p0.toNat 4 0) 47 p0.toNat 5 0) 47 p0.toNat 6 0) 47 p0.toNat 7 0) := t67.mu (by show 0 ≤ 0 ∧ 0 ≤ 1; omega)
              have q71 := q68.mu (f := 47) (k := p0.toNat) (j := 7) (z := 0) (by simp [prg])
              refine m_blk 181 [(1, vi 8), (0, vr 0 0)] [] C f_q_program_199_2 rfl ?_
              refine m_blk 184 [(1, vi 8), (0, vr 0 0)] [vi 10, vi 8] C f_q_program_181_2 rfl ?_
              refine m_icmp_ge (tgt := 205) C e_q_program_184 (by decide) (by decide) (by decide) (fun c72 => (by omega : False).elim) (fun c72 => ?_)
              refine m_blk 188 [(1, vi 8), (0, vr 0 0)] [vr 0 0] C f_q_program_187_1 rfl ?_
              refine m_getr C e_q_program_188 fg_Mo_65 rfl (by decide) rfl ?_
              refine m_blk 192 [(1, vi 8), (0, vr 0 0)] [vr 0 0, vr 27 0] C f_q_program_191_1 rfl ?_
              refine m_geti C e_q_program_192 fg_Mo_105 rfl (by decide) rfl p0 kp_n21 ?_
              refine m_aald C p0.toNat e_q_program_195 rfl rfl rfl (by decide) (by decide) (by omega) (by show p0 < ((6 : Nat) : Int); omega) (mz _ _) ?_
              refine m_blk 198 [(1, vi 8), (0, vr 0 0)] [vi 0, vi 8, vr 47 p0.toNat] C f_q_program_196_2 rfl ?_
              refine m_zast C e_q_program_198 rfl (by omega) (by decide) (by decide) (by decide) (Or.inl rfl) ?_
              have t73 : mTy (mu (mu (mu (mu (mu (mu (mu (mu (mu (mu (mu (mu (mu (mu A19 0 0 31 0) 0 0 22 0) 5 0 p0.toNat NS) 6 0 p0.toNat z35) 7 0 p0.toNat z42) 47 p0.toNat 0 0) 47 p0.toNat 1 0) 47 p0.toNat 2 0) 47 p0.toNat 3 0) 47 p0.toNat 4 0) 47 p0.toNat 5 0) 47 p0.toNat 6 0) 47 p0.toNat 7 0) 47 p0.toNat 8 0) := t70.mu (by show 0 ≤ 0 ∧ 0 ≤ 1; omega)
              have q74 := q71.mu (f := 47) (k := p0.toNat) (j := 8) (z := 0) (by simp [prg])
              refine m_blk 181 [(1, vi 9), (0, vr 0 0)] [] C f_q_program_199_2 rfl ?_
              refine m_blk 184 [(1, vi 9), (0, vr 0 0)] [vi 10, vi 9] C f_q_program_181_2 rfl ?_
              refine m_icmp_ge (tgt := 205) C e_q_program_184 (by decide) (by decide) (by decide) (fun c75 => (by omega : False).elim) (fun c75 => ?_)
              refine m_blk 188 [(1, vi 9), (0, vr 0 0)] [vr 0 0] C f_q_program_187_1 rfl ?_
              refine m_getr C e_q_program_188 fg_Mo_65 rfl (by decide) rfl ?_
              refine m_blk 192 [(1, vi 9), (0, vr 0 0)] [vr 0 0, vr 27 0] C f_q_program_191_1 rfl ?_
              refine m_geti C e_q_program_192 fg_Mo_105 rfl (by decide) rfl p0 kp_n21 ?_
              refine m_aald C p0.toNat e_q_program_195 rfl rfl rfl (by decide) (by decide) (by omega) (by show p0 < ((6 : Nat) : Int); omega) (mz _ _) ?_
              refine m_blk 198 [(1, vi 9), (0, vr 0 0)] [vi 0, vi 9, vr 47 p0.toNat] C f_q_program_196_2 rfl ?_
              refine m_zast C e_q_program_198 rfl (by omega) (by decide) (by decide) (by decide) (Or.inl rfl) ?_
              have t76 : mTy (mu (mu (mu (mu (mu (mu (mu (mu (mu (mu (mu (mu (mu (mu (mu A19 0 0 31 0) 0 0 22 0) 5 0 p0.toNat NS) 6 0 p0.toNat z35) 7 0 p0.toNat z42) 47 p0.toNat 0 0) 47 p0.toNat 1 0) 47 p0.toNat 2 0) 47 p0.toNat 3 0) 47 p0.toNat 4 0) 47 p0.toNat 5 0) 47 p0.toNat 6 0) 47 p0.toNat 7 0) 47 p0.toNat 8 0) 47 p0.toNat 9 0) := t73.mu (by show 0 ≤ 0 ∧ 0 ≤ 1; omega)
              have q77 := q74.mu (f := 47) (k := p0.toNat) (j := 9) (z := 0) (by simp [prg])
              refine m_blk 181 [(1, vi 10), (0, vr 0 0)] [] C f_q_program_199_2 rfl ?_
              refine m_blk 184 [(1, vi 10), (0, vr 0 0)] [vi 10, vi 10] C f_q_program_181_2 rfl ?_
              refine m_icmp_ge (tgt := 205) C e_q_program_184 (by decide) (by decide) (by decide) (fun c78 => ?_) (fun c78 => (by omega : False).elim)
              refine m_blk 207 [(1, vi 10), (0, vr 0 0)] [vr 0 0, vr 0 0] C f_q_program_205_2 rfl ?_
              refine m_geti C e_q_program_207 fg_Mo_105 rfl (by decide) rfl p0 kp_n21 ?_
              refine m_blk 212 [(1, vi 10), (0, vr 0 0)] [vi (p0 + 1), vr 0 0] C f_q_program_210_2 rfl ?_
              refine m_puti C e_q_program_212 fp_Mo_105 rfl (by decide) rfl ?_
              have t79 : mTy (mu (mu (mu (mu (mu (mu (mu (mu (mu (mu (mu (mu (mu (mu (mu (mu A19 0 0 31 0) 0 0 22 0) 5 0 p0.toNat NS) 6 0 p0.toNat z35) 7 0 p0.toNat z42) 47 p0.toNat 0 0) 47 p0.toNat 1 0) 47 p0.toNat 2 0) 47 p0.toNat 3 0) 47 p0.toNat 4 0) 47 p0.toNat 5 0) 47 p0.toNat 6 0) 47 p0.toNat 7 0) 47 p0.toNat 8 0) 47 p0.toNat 9 0) 0 0 0 (p0 + 1)) := t76.mu (by show 0 ≤ (p0 + 1) ∧ (p0 + 1) ≤ 6; omega)
              have q80 := q77.mu (f := 0) (k := 0) (j := 0) (z := (p0 + 1)) (by simp [prg])
              refine m_blk 216 [(1, vi 10), (0, vr 0 0)] [vr 0 0] C f_q_program_215_1 rfl ?_
              refine m_geti C e_q_program_216 fg_Mo_105 rfl (by decide) rfl (p0 + 1) rfl ?_
              refine m_blk 221 [(1, vi 10), (0, vr 0 0)] [vi ((p0 + 1) - 1)] C f_q_program_219_2 rfl ?_
              exact m_iret C Rm E e_q_program_221 ⟨((p0 + 1) - 1), rfl, t79, (show mEq (prg (A 0 0 0).toNat) A _ from hp0.symm ▸ q80), (mI.prog (P := p0.toNat) hI q80 (by omega) (Or.inr ⟨by show (p0 + 1) = _; omega, Pok.mk (mu_at (mu (mu A19 0 0 31 0) 0 0 22 0) 5 0 p0.toNat NS) (pK.fam hK_n21 (fun f9 h8 h9 => (((((((((((((((mu_fk (mu (mu (mu (mu (mu (mu (mu (mu (mu (mu (mu (mu (mu (mu (mu A19 0 0 31 0) 0 0 22 0) 5 0 p0.toNat NS) 6 0 p0.toNat z35) 7 0 p0.toNat z42) 47 p0.toNat 0 0) 47 p0.toNat 1 0) 47 p0.toNat 2 0) 47 p0.toNat 3 0) 47 p0.toNat 4 0) 47 p0.toNat 5 0) 47 p0.toNat 6 0) 47 p0.toNat 7 0) 47 p0.toNat 8 0) 47 p0.toNat 9 0) 0 (p0 + 1) (fun q9 => by omega)).trans (mu_fk (mu (mu (mu (mu (mu (mu (mu (mu (mu (mu (mu (mu (mu (mu A19 0 0 31 0) 0 0 22 0) 5 0 p0.toNat NS) 6 0 p0.toNat z35) 7 0 p0.toNat z42) 47 p0.toNat 0 0) 47 p0.toNat 1 0) 47 p0.toNat 2 0) 47 p0.toNat 3 0) 47 p0.toNat 4 0) 47 p0.toNat 5 0) 47 p0.toNat 6 0) 47 p0.toNat 7 0) 47 p0.toNat 8 0) 9 0 (fun q9 => by omega))).trans (mu_fk (mu (mu (mu (mu (mu (mu (mu (mu (mu (mu (mu (mu (mu A19 0 0 31 0) 0 0 22 0) 5 0 p0.toNat NS) 6 0 p0.toNat z35) 7 0 p0.toNat z42) 47 p0.toNat 0 0) 47 p0.toNat 1 0) 47 p0.toNat 2 0) 47 p0.toNat 3 0) 47 p0.toNat 4 0) 47 p0.toNat 5 0) 47 p0.toNat 6 0) 47 p0.toNat 7 0) 8 0 (fun q9 => by omega))).trans (mu_fk (mu (mu (mu (mu (mu (mu (mu (mu (mu (mu (mu (mu A19 0 0 31 0) 0 0 22 0) 5 0 p0.toNat NS) 6 0 p0.toNat z35) 7 0 p0.toNat z42) 47 p0.toNat 0 0) 47 p0.toNat 1 0) 47 p0.toNat 2 0) 47 p0.toNat 3 0) 47 p0.toNat 4 0) 47 p0.toNat 5 0) 47 p0.toNat 6 0) 7 0 (fun q9 => by omega))).trans (mu_fk (mu (mu (mu (mu (mu (mu (mu (mu (mu (mu (mu A19 0 0 31 0) 0 0 22 0) 5 0 p0.toNat NS) 6 0 p0.toNat z35) 7 0 p0.toNat z42) 47 p0.toNat 0 0) 47 p0.toNat 1 0) 47 p0.toNat 2 0) 47 p0.toNat 3 0) 47 p0.toNat 4 0) 47 p0.toNat 5 0) 6 0 (fun q9 => by omega))).trans (mu_fk (mu (mu (mu (mu (mu (mu (mu (mu (mu (mu A19 0 0 31 0) 0 0 22 0) 5 0 p0.toNat NS) 6 0 p0.toNat z35) 7 0 p0.toNat z42) 47 p0.toNat 0 0) 47 p0.toNat 1 0) 47 p0.toNat 2 0) 47 p0.toNat 3 0) 47 p0.toNat 4 0) 5 0 (fun q9 => by omega))).trans (mu_fk (mu (mu (mu (mu (mu (mu (mu (mu (mu A19 0 0 31 0) 0 0 22 0) 5 0 p0.toNat NS) 6 0 p0.toNat z35) 7 0 p0.toNat z42) 47 p0.toNat 0 0) 47 p0.toNat 1 0) 47 p0.toNat 2 0) 47 p0.toNat 3 0) 4 0 (fun q9 => by omega))).trans (mu_fk (mu (mu (mu (mu (mu (mu (mu (mu A19 0 0 31 0) 0 0 22 0) 5 0 p0.toNat NS) 6 0 p0.toNat z35) 7 0 p0.toNat z42) 47 p0.toNat 0 0) 47 p0.toNat 1 0) 47 p0.toNat 2 0) 3 0 (fun q9 => by omega))).trans (mu_fk (mu (mu (mu (mu (mu (mu (mu A19 0 0 31 0) 0 0 22 0) 5 0 p0.toNat NS) 6 0 p0.toNat z35) 7 0 p0.toNat z42) 47 p0.toNat 0 0) 47 p0.toNat 1 0) 2 0 (fun q9 => by omega))).trans (mu_fk (mu (mu (mu (mu (mu (mu A19 0 0 31 0) 0 0 22 0) 5 0 p0.toNat NS) 6 0 p0.toNat z35) 7 0 p0.toNat z42) 47 p0.toNat 0 0) 1 0 (fun q9 => by omega))).trans (mu_fk (mu (mu (mu (mu (mu A19 0 0 31 0) 0 0 22 0) 5 0 p0.toNat NS) 6 0 p0.toNat z35) 7 0 p0.toNat z42) 0 0 (fun q9 => by omega))).trans (mu_fk (mu (mu (mu (mu A19 0 0 31 0) 0 0 22 0) 5 0 p0.toNat NS) 6 0 p0.toNat z35) p0.toNat z42 (fun q9 => by omega))).trans (mu_fk (mu (mu (mu A19 0 0 31 0) 0 0 22 0) 5 0 p0.toNat NS) p0.toNat z35 (fun q9 => by omega))).trans (mu_fk (mu (mu A19 0 0 31 0) 0 0 22 0) p0.toNat NS (fun q9 => by omega))).trans (mu_fk (mu A19 0 0 31 0) 22 0 (fun q9 => by omega))).trans (mu_fk A19 31 0 (fun q9 => by omega))))⟩)), (by show -300 ≤ ((p0 + 1) - 1) ∧ ((p0 + 1) - 1) ≤ 5; omega)⟩
            · refine m_blk 178 [(0, vr 0 0)] [vi (-4)] C f_q_program_176_1 rfl ?_
              exact m_iret C Rm E e_q_program_178 ⟨(-4), rfl, t43, (show mEq (prg (A 0 0 0).toNat) A _ from hp0.symm ▸ q44), (mI.prog (P := p0.toNat) hI q44 (by omega) (Or.inl (by show A19 0 0 0 = _; omega))), (by show -300 ≤ (-4) ∧ (-4) ≤ 5; omega)⟩
        · refine m_blk 67 [(0, vr 0 0)] [vi 1, vi 0, vr 0 0] C f_q_program_62_2 rfl ?_
          refine m_blk 68 [(0, vr 0 0)] [vi (iOr 0 1), vr 0 0] C f_q_program_67_1 rfl ?_
          rw [ior1]
          refine m_putz C e_q_program_68 fp_Mo_155 rfl (by decide) rfl (Or.inr rfl) ?_
          have t81 : mTy (mu A19 0 0 31 1) := hT_n21.mu (by show 0 ≤ 1 ∧ 1 ≤ 1; omega)
          have q82 := hF_n21.mu (f := 0) (k := 0) (j := 31) (z := 1) (by simp [prg])
          refine m_blk 73 [(0, vr 0 0)] [vi 0, vr 0 0] C f_q_program_71_2 rfl ?_
          refine m_puti C e_q_program_73 fp_Mo_116 rfl (by decide) rfl ?_
          have t83 : mTy (mu (mu A19 0 0 31 1) 0 0 22 0) := t81.mu (by show 0 ≤ 0 ∧ 0 ≤ 120; omega)
          have q84 := q82.mu (f := 0) (k := 0) (j := 22) (z := 0) (by simp [prg])
          refine m_blk 77 [(0, vr 0 0)] [vr 0 0] C f_q_program_76_1 rfl ?_
          refine m_geti C e_q_program_77 fg_Mo_155 rfl (by decide) rfl 1 rfl ?_
          refine m_if_eq (tgt := 91) C e_q_program_80 (by decide) (by decide) (fun c85 => (by omega : False).elim) (fun c85 => ?_)
          refine m_blk 86 [(0, vr 0 0)] [vr 0 0, vi (-100)] C f_q_program_83_2 rfl ?_
          obtain ⟨x86, hx86⟩ : ∃ x, A19 0 0 24 = x := ⟨_, rfl⟩
          have rx86 : 0 ≤ x86 ∧ x86 ≤ 120 := mrg hT_n21 hx86 rfl
          refine m_geti C e_q_program_86 fg_Mo_128 rfl (by decide) rfl x86 hx86 ?_
          refine m_blk 90 [(0, vr 0 0)] [vi ((-100) - x86)] C f_q_program_89_1 rfl ?_
          exact m_iret C Rm E e_q_program_90 ⟨((-100) - x86), rfl, t83, (show mEq (prg (A 0 0 0).toNat) A _ from hp0.symm ▸ q84), (mI.prog (P := p0.toNat) hI q84 (by omega) (Or.inl (by show A19 0 0 0 = _; omega))), (by show -300 ≤ ((-100) - x86) ∧ ((-100) - x86) ≤ 5; omega)⟩
      · refine m_blk 52 [(0, vr 0 0)] [vr 0 0, vr 0 0] C f_q_program_50_2 rfl ?_
        refine m_geti C e_q_program_52 fg_Mo_155 rfl (by decide) rfl 1 g_n21 ?_
        refine m_blk 56 [(0, vr 0 0)] [vr 0 0, vi 1, vr 0 0] C f_q_program_55_1 rfl ?_
        obtain ⟨x87, hx87⟩ : ∃ x, A19 0 0 25 = x := ⟨_, rfl⟩
        have rx87 : 0 ≤ x87 ∧ x87 ≤ 4 := mrg hT_n21 hx87 rfl
        refine m_geti C e_q_program_56 fg_Mo_159 rfl (by decide) rfl x87 hx87 ?_
        refine m_if_eq (tgt := 66) C e_q_program_59 (by decide) (by omega) (fun c88 => ?_) (fun c88 => ?_)
        · refine m_blk 68 [(0, vr 0 0)] [vi (iOr 1 0), vr 0 0] C f_q_program_66_2 rfl ?_
          rw [ior2]
          refine m_putz C e_q_program_68 fp_Mo_155 rfl (by decide) rfl (Or.inr rfl) ?_
          have t89 : mTy (mu A19 0 0 31 1) := hT_n21.mu (by show 0 ≤ 1 ∧ 1 ≤ 1; omega)
          have q90 := hF_n21.mu (f := 0) (k := 0) (j := 31) (z := 1) (by simp [prg])
          refine m_blk 73 [(0, vr 0 0)] [vi 0, vr 0 0] C f_q_program_71_2 rfl ?_
          refine m_puti C e_q_program_73 fp_Mo_116 rfl (by decide) rfl ?_
          have t91 : mTy (mu (mu A19 0 0 31 1) 0 0 22 0) := t89.mu (by show 0 ≤ 0 ∧ 0 ≤ 120; omega)
          have q92 := q90.mu (f := 0) (k := 0) (j := 22) (z := 0) (by simp [prg])
          refine m_blk 77 [(0, vr 0 0)] [vr 0 0] C f_q_program_76_1 rfl ?_
          refine m_geti C e_q_program_77 fg_Mo_155 rfl (by decide) rfl 1 rfl ?_
          refine m_if_eq (tgt := 91) C e_q_program_80 (by decide) (by decide) (fun c93 => (by omega : False).elim) (fun c93 => ?_)
          refine m_blk 86 [(0, vr 0 0)] [vr 0 0, vi (-100)] C f_q_program_83_2 rfl ?_
          obtain ⟨x94, hx94⟩ : ∃ x, A19 0 0 24 = x := ⟨_, rfl⟩
          have rx94 : 0 ≤ x94 ∧ x94 ≤ 120 := mrg hT_n21 hx94 rfl
          refine m_geti C e_q_program_86 fg_Mo_128 rfl (by decide) rfl x94 hx94 ?_
          refine m_blk 90 [(0, vr 0 0)] [vi ((-100) - x94)] C f_q_program_89_1 rfl ?_
          exact m_iret C Rm E e_q_program_90 ⟨((-100) - x94), rfl, t91, (show mEq (prg (A 0 0 0).toNat) A _ from hp0.symm ▸ q92), (mI.prog (P := p0.toNat) hI q92 (by omega) (Or.inl (by show A19 0 0 0 = _; omega))), (by show -300 ≤ ((-100) - x94) ∧ ((-100) - x94) ≤ 5; omega)⟩
        · refine m_blk 67 [(0, vr 0 0)] [vi 1, vi 1, vr 0 0] C f_q_program_62_2 rfl ?_
          refine m_blk 68 [(0, vr 0 0)] [vi (iOr 1 1), vr 0 0] C f_q_program_67_1 rfl ?_
          rw [ior3]
          refine m_putz C e_q_program_68 fp_Mo_155 rfl (by decide) rfl (Or.inr rfl) ?_
          have t95 : mTy (mu A19 0 0 31 1) := hT_n21.mu (by show 0 ≤ 1 ∧ 1 ≤ 1; omega)
          have q96 := hF_n21.mu (f := 0) (k := 0) (j := 31) (z := 1) (by simp [prg])
          refine m_blk 73 [(0, vr 0 0)] [vi 0, vr 0 0] C f_q_program_71_2 rfl ?_
          refine m_puti C e_q_program_73 fp_Mo_116 rfl (by decide) rfl ?_
          have t97 : mTy (mu (mu A19 0 0 31 1) 0 0 22 0) := t95.mu (by show 0 ≤ 0 ∧ 0 ≤ 120; omega)
          have q98 := q96.mu (f := 0) (k := 0) (j := 22) (z := 0) (by simp [prg])
          refine m_blk 77 [(0, vr 0 0)] [vr 0 0] C f_q_program_76_1 rfl ?_
          refine m_geti C e_q_program_77 fg_Mo_155 rfl (by decide) rfl 1 rfl ?_
          refine m_if_eq (tgt := 91) C e_q_program_80 (by decide) (by decide) (fun c99 => (by omega : False).elim) (fun c99 => ?_)
          refine m_blk 86 [(0, vr 0 0)] [vr 0 0, vi (-100)] C f_q_program_83_2 rfl ?_
          obtain ⟨x100, hx100⟩ : ∃ x, A19 0 0 24 = x := ⟨_, rfl⟩
          have rx100 : 0 ≤ x100 ∧ x100 ≤ 120 := mrg hT_n21 hx100 rfl
          refine m_geti C e_q_program_86 fg_Mo_128 rfl (by decide) rfl x100 hx100 ?_
          refine m_blk 90 [(0, vr 0 0)] [vi ((-100) - x100)] C f_q_program_89_1 rfl ?_
          exact m_iret C Rm E e_q_program_90 ⟨((-100) - x100), rfl, t97, (show mEq (prg (A 0 0 0).toNat) A _ from hp0.symm ▸ q98), (mI.prog (P := p0.toNat) hI q98 (by omega) (Or.inl (by show A19 0 0 0 = _; omega))), (by show -300 ≤ ((-100) - x100) ∧ ((-100) - x100) ≤ 5; omega)⟩
    · refine m_blk 47 [(0, vr 0 0)] [vr 0 0] C f_q_program_46_1 rfl ?_
      refine m_callV C Rm Y [] [] ((q_B 4) l D B H0 ad _ hS hT_n17 p0 (by show A15 0 0 0 = p0 ∧ 0 ≤ p0 ∧ p0 ≤ 5; omega) (by show A15 0 0 24 ≤ A15 0 0 23 ∧ A15 0 0 23 ≤ A15 0 0 22; omega) pt_n17 (fun h9 => absurd ((g_n17 : A15 0 0 31 = 1).symm.trans h9) (by decide)) (fun e9 he9 => absurd he9 (by omega)) (by show A15 0 0 27 = 4 - ((4 : Nat) : Int) ∧ ((4 : Nat) : Int) ≤ 4; omega)) cl_Mo_185 rfl (by decide) rfl rfl e_q_program_47 rfl rfl rfl ⟨by decide, by decide⟩ ?_
      rintro v101 A102 ⟨rfl, hT_n104, hE_n104, raw_hb_n104, raw_hn_n104, raw_hw_n104, raw_hm_n104, raw_hG_n104, raw_hQ_n104⟩
      have hF_n104 := hF_n17.trans (hE_n104.sub (pm_prg _))
      show JM g D ad w0 A102 50 [(0, vr 0 0)] []
      have hb_n104 : A102 0 0 24 ≤ A102 0 0 23 ∧ A102 0 0 23 ≤ A102 0 0 22 := raw_hb_n104
      clear raw_hb_n104
      have hm_n104 : A15 0 0 24 ≤ A102 0 0 24 ∧ A15 0 0 28 ≤ A102 0 0 28 ∧ A15 0 0 29 ≤ A102 0 0 29 ∧ A15 0 0 30 ≤ A102 0 0 30 ∧ A102 0 0 27 = A15 0 0 27 := raw_hm_n104
      clear raw_hm_n104
      have k0_n104 : A102 0 0 0 = A15 0 0 0 := hE_n104 0 0 0 rfl
      have k22_n104 : A102 0 0 22 = A15 0 0 22 := hE_n104 0 0 22 rfl
      have kp_n104 : A102 0 0 0 = p0 := by omega
      have hG_n104 : nG p0.toNat A102 := raw_hG_n104
      have hV_n104 : pV p0.toNat (4 - ((4 : Nat) : Int)) A15 A102 := raw_hw_n104
      clear raw_hw_n104 raw_hQ_n104
      have g_n104 : A102 0 0 31 = 1 := wr_1 (hT_n104 0 0 31) (fun h9 => absurd ((g_n17 : A15 0 0 31 = 1).symm.trans (hV_n104 h9).1) (by decide))
      refine m_blk 52 [(0, vr 0 0)] [vr 0 0, vr 0 0] C f_q_program_50_2 rfl ?_
      refine m_geti C e_q_program_52 fg_Mo_155 rfl (by decide) rfl 1 g_n104 ?_
      refine m_blk 56 [(0, vr 0 0)] [vr 0 0, vi 1, vr 0 0] C f_q_program_55_1 rfl ?_
      obtain ⟨x105, hx105⟩ : ∃ x, A102 0 0 25 = x := ⟨_, rfl⟩
      have rx105 : 0 ≤ x105 ∧ x105 ≤ 4 := mrg hT_n104 hx105 rfl
      refine m_geti C e_q_program_56 fg_Mo_159 rfl (by decide) rfl x105 hx105 ?_
      refine m_if_eq (tgt := 66) C e_q_program_59 (by decide) (by omega) (fun c106 => ?_) (fun c106 => ?_)
      · refine m_blk 68 [(0, vr 0 0)] [vi (iOr 1 0), vr 0 0] C f_q_program_66_2 rfl ?_
        rw [ior2]
        refine m_putz C e_q_program_68 fp_Mo_155 rfl (by decide) rfl (Or.inr rfl) ?_
        have t107 : mTy (mu A102 0 0 31 1) := hT_n104.mu (by show 0 ≤ 1 ∧ 1 ≤ 1; omega)
        have q108 := hF_n104.mu (f := 0) (k := 0) (j := 31) (z := 1) (by simp [prg])
        refine m_blk 73 [(0, vr 0 0)] [vi 0, vr 0 0] C f_q_program_71_2 rfl ?_
        refine m_puti C e_q_program_73 fp_Mo_116 rfl (by decide) rfl ?_
        have t109 : mTy (mu (mu A102 0 0 31 1) 0 0 22 0) := t107.mu (by show 0 ≤ 0 ∧ 0 ≤ 120; omega)
        have q110 := q108.mu (f := 0) (k := 0) (j := 22) (z := 0) (by simp [prg])
        refine m_blk 77 [(0, vr 0 0)] [vr 0 0] C f_q_program_76_1 rfl ?_
        refine m_geti C e_q_program_77 fg_Mo_155 rfl (by decide) rfl 1 rfl ?_
        refine m_if_eq (tgt := 91) C e_q_program_80 (by decide) (by decide) (fun c111 => (by omega : False).elim) (fun c111 => ?_)
        refine m_blk 86 [(0, vr 0 0)] [vr 0 0, vi (-100)] C f_q_program_83_2 rfl ?_
        obtain ⟨x112, hx112⟩ : ∃ x, A102 0 0 24 = x := ⟨_, rfl⟩
        have rx112 : 0 ≤ x112 ∧ x112 ≤ 120 := mrg hT_n104 hx112 rfl
        refine m_geti C e_q_program_86 fg_Mo_128 rfl (by decide) rfl x112 hx112 ?_
        refine m_blk 90 [(0, vr 0 0)] [vi ((-100) - x112)] C f_q_program_89_1 rfl ?_
        exact m_iret C Rm E e_q_program_90 ⟨((-100) - x112), rfl, t109, (show mEq (prg (A 0 0 0).toNat) A _ from hp0.symm ▸ q110), (mI.prog (P := p0.toNat) hI q110 (by omega) (Or.inl (by show A102 0 0 0 = _; omega))), (by show -300 ≤ ((-100) - x112) ∧ ((-100) - x112) ≤ 5; omega)⟩
      · refine m_blk 67 [(0, vr 0 0)] [vi 1, vi 1, vr 0 0] C f_q_program_62_2 rfl ?_
        refine m_blk 68 [(0, vr 0 0)] [vi (iOr 1 1), vr 0 0] C f_q_program_67_1 rfl ?_
        rw [ior3]
        refine m_putz C e_q_program_68 fp_Mo_155 rfl (by decide) rfl (Or.inr rfl) ?_
        have t113 : mTy (mu A102 0 0 31 1) := hT_n104.mu (by show 0 ≤ 1 ∧ 1 ≤ 1; omega)
        have q114 := hF_n104.mu (f := 0) (k := 0) (j := 31) (z := 1) (by simp [prg])
        refine m_blk 73 [(0, vr 0 0)] [vi 0, vr 0 0] C f_q_program_71_2 rfl ?_
        refine m_puti C e_q_program_73 fp_Mo_116 rfl (by decide) rfl ?_
        have t115 : mTy (mu (mu A102 0 0 31 1) 0 0 22 0) := t113.mu (by show 0 ≤ 0 ∧ 0 ≤ 120; omega)
        have q116 := q114.mu (f := 0) (k := 0) (j := 22) (z := 0) (by simp [prg])
        refine m_blk 77 [(0, vr 0 0)] [vr 0 0] C f_q_program_76_1 rfl ?_
        refine m_geti C e_q_program_77 fg_Mo_155 rfl (by decide) rfl 1 rfl ?_
        refine m_if_eq (tgt := 91) C e_q_program_80 (by decide) (by decide) (fun c117 => (by omega : False).elim) (fun c117 => ?_)
        refine m_blk 86 [(0, vr 0 0)] [vr 0 0, vi (-100)] C f_q_program_83_2 rfl ?_
        obtain ⟨x118, hx118⟩ : ∃ x, A102 0 0 24 = x := ⟨_, rfl⟩
        have rx118 : 0 ≤ x118 ∧ x118 ≤ 120 := mrg hT_n104 hx118 rfl
        refine m_geti C e_q_program_86 fg_Mo_128 rfl (by decide) rfl x118 hx118 ?_
        refine m_blk 90 [(0, vr 0 0)] [vi ((-100) - x118)] C f_q_program_89_1 rfl ?_
        exact m_iret C Rm E e_q_program_90 ⟨((-100) - x118), rfl, t115, (show mEq (prg (A 0 0 0).toNat) A _ from hp0.symm ▸ q116), (mI.prog (P := p0.toNat) hI q116 (by omega) (Or.inl (by show A102 0 0 0 = _; omega))), (by show -300 ≤ ((-100) - x118) ∧ ((-100) - x118) ≤ 5; omega)⟩
  · refine m_blk 11 [(0, vr 0 0)] [vi (-4)] C f_q_program_9_1 rfl ?_
    exact m_iret C Rm E e_q_program_11 ⟨(-4), rfl, hT, (show mEq (prg (A 0 0 0).toNat) A _ from hp0.symm ▸ hE0), hI, (by show -300 ≤ (-4) ∧ (-4) ≤ 5; omega)⟩
