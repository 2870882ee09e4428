/-! the reference: blocks made, programs told, run on (own work, by program) -/
theorem ws_mono {w : Nat → Int} : ∀ n m : Nat, n ≤ m → (∀ v, v < m → 0 ≤ w v) → ws w 0 n ≤ ws w 0 m
  | n, 0, hm, _ => by
    have : n = 0 := by omega
    subst this; exact Int.le_refl _
  | n, m + 1, hm, h => by
    by_cases c : n = m + 1
    · subst c; exact Int.le_refl _
    · have h1 := ws_mono n m (by omega) (fun v hv => h v (by omega))
      have h2 := h m (by omega)
      show ws w 0 n ≤ ws w 0 m + w (0 + m)
      rw [Nat.zero_add]
      omega
/-- a row of what was made -/
theorem mS.row {A : mA} (h : mS A) (c : Nat) : (∀ v : Int, 0 ≤ v → v < 10 → 0 ≤ A 51 c v.toNat ∧ A 51 c v.toNat ≤ 1125899906842624 ∧ ws (A 51 c) 0 (v + 1).toNat = ws (A 51 c) 0 v.toNat + A 51 c v.toNat) ∧ ∀ v : Int, 0 ≤ v → v ≤ 10 → 0 ≤ ws (A 51 c) 0 v.toNat ∧ ws (A 51 c) 0 v.toNat ≤ 1125899906842624 := by
  have h1 := h c
  refine ⟨fun v h0 hv => ?_, fun v h0 hv => ?_⟩
  · have h2 := (ws_e0 (w := A 51 c) 10 h1.1).2 v.toNat (by omega)
    exact ⟨h1.1 v.toNat (by omega), by omega, ws1 _ h0⟩
  · have h2 := ws_mono (w := A 51 c) v.toNat 10 (by omega) h1.1
    have h3 := (ws_e0 (w := A 51 c) v.toNat (fun x hx => h1.1 x (by omega))).1
    exact ⟨h3, by omega⟩
def S_choose (n : Nat) : Prop := ∀ (l : Launch) (D : va_G) (B : Nat) (H0 : Heap) (ad : mAd) (A : mA) (hT : mTy A) (u : Int) (T : Int) (N : Int) (M : Int) (Ln : Int) (dep : Nat → Int) (p : Int) (i : Int) (ki : Nat) (w : Int) (hp : 0 ≤ p ∧ p ≤ 5) (hK : pK A p.toNat N M Ln dep) (ha : aOk A p) (hi : 0 ≤ i ∧ i < N ∧ 20 * p + 16 - i ≤ (n : Int)) (hu : A 0 0 33 = u ∧ 0 ≤ u ∧ u + (19 * p + 22 - 4 * dep i.toNat) ≤ 200) (hk : (ki : Int) < u) (hO : oG A ki T) (hT9 : 0 ≤ T ∧ T ≤ 1125899906842624) (hw : -2147483648 ≤ w ∧ w ≤ 2147483647) (hS : mS A) (hkd : A 34 p.toNat i.toNat = 3) , mMet l D B H0 ad y_Mo_choose b_Mo_choose 9 (some (.object "ChanceStepsModel$Odds")) (201 + 6 * n) (5530 + 150 * n) [vr 0 0, vi p, vi i, vr 1 ki, vi w] A (fun v9 A9 => ∃ z : Nat, v9 = some (vr 1 z) ∧ mTy A9 ∧ mEq (rm u.toNat) A A9 ∧ (u ≤ (z : Int) ∧ (z : Int) < A9 0 0 33) ∧ (u + 1 ≤ A9 0 0 33 ∧ A9 0 0 33 ≤ u + 1 + 4 * (5 - dep i.toNat)) ∧ (oG A9 z T) ∧ (mS A9))
def S_make (n : Nat) : Prop := ∀ (l : Launch) (D : va_G) (B : Nat) (H0 : Heap) (ad : mAd) (A : mA) (hT : mTy A) (u : Int) (T : Int) (N : Int) (M : Int) (Ln : Int) (dep : Nat → Int) (d : Int) (p : Int) (a : Int) (b : Int) (ki : Nat) (w : Int) (hp : 0 ≤ p ∧ p ≤ 5) (hK : pK A p.toNat N M Ln dep) (ha : aOk A p) (hab : 0 ≤ a ∧ a ≤ 16 ∧ 0 ≤ b ∧ b ≤ N ∧ 20 * p + 17 - a ≤ (n : Int)) (hd : dQ dep a b d) (hu : A 0 0 33 = u ∧ 0 ≤ u ∧ u + (19 * p + 23 - 4 * d) ≤ 200 ∧ 0 ≤ d ∧ d ≤ 5) (hk : (ki : Int) < u) (hO : oG A ki T) (hT9 : 0 ≤ T ∧ T ≤ 1125899906842624) (hw : -2147483648 ≤ w ∧ w ≤ 2147483647) (hS : mS A) , mMet l D B H0 ad y_Mo_make b_Mo_make 11 (some (.object "ChanceStepsModel$Odds")) (200 + 6 * n) (5500 + 150 * n) [vr 0 0, vi p, vi a, vi b, vr 1 ki, vi w] A (fun v9 A9 => ∃ z : Nat, v9 = some (vr 1 z) ∧ mTy A9 ∧ mEq (rm u.toNat) A A9 ∧ ((z : Int) = u) ∧ (u + 1 ≤ A9 0 0 33 ∧ A9 0 0 33 ≤ u + 2 + 4 * (5 - d)) ∧ (xQ A9 (u + 1)) ∧ (oG A9 z T) ∧ (mS A9))
def S_makeStep (n : Nat) : Prop := ∀ (l : Launch) (D : va_G) (B : Nat) (H0 : Heap) (ad : mAd) (A : mA) (hT : mTy A) (u : Int) (T : Int) (N : Int) (M : Int) (Ln : Int) (dep : Nat → Int) (p : Int) (i : Int) (ki : Nat) (w : Int) (hp : 0 ≤ p ∧ p ≤ 5) (hK : pK A p.toNat N M Ln dep) (ha : aOk A p) (hi : 0 ≤ i ∧ i < N ∧ 20 * p + 16 - i ≤ (n : Int)) (hu : A 0 0 33 = u ∧ 0 ≤ u ∧ u + (19 * p + 22 - 4 * dep i.toNat) ≤ 200) (hk : (ki : Int) < u) (hO : oG A ki T) (hT9 : 0 ≤ T ∧ T ≤ 1125899906842624) (hw : -2147483648 ≤ w ∧ w ≤ 2147483647) (hS : mS A) , mMet l D B H0 ad y_Mo_makeStep b_Mo_makeStep 5 (some (.object "ChanceStepsModel$Odds")) (203 + 6 * n) (5590 + 150 * n) [vr 0 0, vi p, vi i, vr 1 ki, vi w] A (fun v9 A9 => ∃ z : Nat, v9 = some (vr 1 z) ∧ mTy A9 ∧ mEq (rm u.toNat) A A9 ∧ (u ≤ (z : Int) ∧ (z : Int) < A9 0 0 33) ∧ (u + 1 ≤ A9 0 0 33 ∧ A9 0 0 33 ≤ u + 1 + 4 * (5 - dep i.toNat)) ∧ (oG A9 z T) ∧ (mS A9))
theorem f_q_choose_cut_90_2 : mblkB b_Mo_choose [(90, .iload 8, vi 0), (92, .aload 5, vi 0)] = true := by decide +kernel
theorem e_q_choose_cut_94 : decode b_Mo_choose 94 = .ok (.getfield 272, 3) := by decide +kernel
theorem e_q_choose_cut_97 : decode b_Mo_choose 97 = .ok (.if_icmp .ge 30, 3) := by decide +kernel
theorem f_q_choose_cut_127_2 : mblkB b_Mo_choose [(127, .iconst 0, vi 0), (128, .istore 8, vi 0)] = true := by decide +kernel
theorem f_q_choose_cut_130_2 : mblkB b_Mo_choose [(130, .iload 8, vi 0), (132, .aload 6, vi 0)] = true := by decide +kernel
theorem e_q_choose_cut_134 : decode b_Mo_choose 134 = .ok (.getfield 272, 3) := by decide +kernel
theorem e_q_choose_cut_137 : decode b_Mo_choose 137 = .ok (.if_icmp .ge 30, 3) := by decide +kernel
theorem f_q_choose_cut_167_1 : mblkB b_Mo_choose [(167, .aload 7, vi 0)] = true := by decide +kernel
theorem e_q_choose_cut_169 : decode b_Mo_choose 169 = .ok (.areturn, 1) := by decide +kernel
theorem f_q_choose_cut_140_2 : mblkB b_Mo_choose [(140, .aload 7, vi 0), (142, .aload 6, vi 0)] = true := by decide +kernel
theorem e_q_choose_cut_144 : decode b_Mo_choose 144 = .ok (.getfield 279, 3) := by decide +kernel
theorem f_q_choose_cut_147_1 : mblkB b_Mo_choose [(147, .iload 8, vi 0)] = true := by decide +kernel
theorem e_q_choose_cut_149 : decode b_Mo_choose 149 = .ok (.iaload, 1) := by decide +kernel
theorem f_q_choose_cut_150_1 : mblkB b_Mo_choose [(150, .aload 6, vi 0)] = true := by decide +kernel
theorem e_q_choose_cut_152 : decode b_Mo_choose 152 = .ok (.getfield 285, 3) := by decide +kernel
theorem f_q_choose_cut_155_1 : mblkB b_Mo_choose [(155, .iload 8, vi 0)] = true := by decide +kernel
theorem e_q_choose_cut_157 : decode b_Mo_choose 157 = .ok (.laload, 1) := by decide +kernel
theorem e_q_choose_cut_158 : decode b_Mo_choose 158 = .ok (.invokevirtual 289, 3) := by decide +kernel
theorem f_q_choose_cut_161_2 : mblkB b_Mo_choose [(161, .iinc 8 1, vi 1), (164, .goto (-34), vi 130)] = true := by decide +kernel
theorem f_q_choose_cut_100_2 : mblkB b_Mo_choose [(100, .aload 7, vi 0), (102, .aload 5, vi 0)] = true := by decide +kernel
theorem e_q_choose_cut_104 : decode b_Mo_choose 104 = .ok (.getfield 279, 3) := by decide +kernel
theorem f_q_choose_cut_107_1 : mblkB b_Mo_choose [(107, .iload 8, vi 0)] = true := by decide +kernel
theorem e_q_choose_cut_109 : decode b_Mo_choose 109 = .ok (.iaload, 1) := by decide +kernel
theorem f_q_choose_cut_110_1 : mblkB b_Mo_choose [(110, .aload 5, vi 0)] = true := by decide +kernel
theorem e_q_choose_cut_112 : decode b_Mo_choose 112 = .ok (.getfield 285, 3) := by decide +kernel
theorem f_q_choose_cut_115_1 : mblkB b_Mo_choose [(115, .iload 8, vi 0)] = true := by decide +kernel
theorem e_q_choose_cut_117 : decode b_Mo_choose 117 = .ok (.laload, 1) := by decide +kernel
theorem e_q_choose_cut_118 : decode b_Mo_choose 118 = .ok (.invokevirtual 289, 3) := by decide +kernel
theorem f_q_choose_cut_121_2 : mblkB b_Mo_choose [(121, .iinc 8 1, vi 1), (124, .goto (-34), vi 90)] = true := by decide +kernel
set_option maxHeartbeats 40000000 in
set_option maxRecDepth 100000 in
theorem q_choose_cut (n : Nat) (l : Launch) (D : va_G) (B : Nat) (H0 : Heap) (ad : mAd) (A A5 : mA) (u T T1 T2 : Int) (dep : Nat → Int) (i : Int) (za zb zo : Nat) (g : jG) (w0 : jW) (C : jX g b_Mo_choose 9 (y_Mo_choose).cls D) (Rm : jRm g w0.2.1 w0.2.2 { frames := (201 + 6 * n), cells := 0, slots := 0, locals := (5530 + 150 * n) }) (Y : jY g l B H0 y_Mo_choose) (E : jEnd g (mPost D ad w0 (fun v9 A9 => ∃ z : Nat, v9 = some (vr 1 z) ∧ mTy A9 ∧ mEq (rm u.toNat) A A9 ∧ (u ≤ (z : Int) ∧ (z : Int) < A9 0 0 33) ∧ (u + 1 ≤ A9 0 0 33 ∧ A9 0 0 33 ≤ u + 1 + 4 * (5 - dep i.toNat)) ∧ (oG A9 z T) ∧ (mS A9))) 0 0 (some (.object "ChanceStepsModel$Odds"))) (hT5 : mTy A5) (hE5 : mEq (rm u.toNat) A A5) (la5 : oG A5 za T1) (lb5 : oG A5 zb T2) (hm5 : A5 1 zo 2 = 0) (ku5 : A5 0 0 33 = u + 5) (hS5 : mS A5) (hz5 : (za : Int) = u + 1 ∧ (zb : Int) = u + 3 ∧ (zo : Int) = u + 4) (ts9 : 0 ≤ T1 ∧ 0 ≤ T2 ∧ T1 + T2 ≤ T ∧ T ≤ 1125899906842624) (hu : 0 ≤ u ∧ u ≤ 194) (hp9 : 0 ≤ dep i.toNat ∧ dep i.toNat ≤ 4) : JM g D ad w0 A5 90 [(8, vi 0), (7, vr 1 zo), (5, vr 1 za), (6, vr 1 zb), (0, vr 0 0)] [] := by
  have ra9 : 0 ≤ A5 1 za 2 ∧ A5 1 za 2 ≤ 301 := hT5 1 za 2
  have rb9 : 0 ≤ A5 1 zb 2 ∧ A5 1 zb 2 ≤ 301 := hT5 1 zb 2
  obtain ⟨S1, hS1⟩ : ∃ f : Int → Int, ∀ j, f j = ws (A5 4 za) 0 (Int.toNat j) := ⟨_, fun _ => rfl⟩
  obtain ⟨S2, hS2⟩ : ∃ f : Int → Int, ∀ j, f j = ws (A5 4 zb) 0 (Int.toNat j) := ⟨_, fun _ => rfl⟩
  have t19 := (la5.tot ra9.1).2
  have t29 := (lb5.tot rb9.1).2
  obtain ⟨m1, hm1⟩ : ∃ x, A5 1 za 2 = x := ⟨_, rfl⟩
  obtain ⟨m2, hm2⟩ : ∃ x, A5 1 zb 2 = x := ⟨_, rfl⟩
  rw [hm1, ← hS1] at t19
  rw [hm2, ← hS2] at t29
  rw [hm1] at ra9
  rw [hm2] at rb9
  have z1 : S1 0 = 0 := by rw [hS1]; rfl
  have z2 : S2 0 = 0 := by rw [hS2]; rfl
  have sa0 : 0 ≤ S1 m1 := by
    rw [hS1, ← hm1]
    have h9 := (ws_e0 (w := A5 4 za) (Int.toNat (A5 1 za 2)) (fun v hv => by have h8 := la5.1 v (by omega); omega)).1
    exact h9
  have hd_90 : ∀ (NZ : Nat) (A2 : mA) (j : Int), mTy A2 → mEq (rm u.toNat) A A2 → mEq (dm (Int.toNat (u + 4))) A5 A2 → oG A2 zo (S1 j) → 0 ≤ j ∧ j ≤ m1 → A2 0 0 33 = u + 5 → mS A2 → (400 - j) < (NZ : Int) → JM g D ad w0 A2 90 [(8, vi j), (7, vr 1 zo), (5, vr 1 za), (6, vr 1 zb), (0, vr 0 0)] [] := by
    intro NZ
    induction NZ with
    | zero => intro A2 j hTa hEa hDa hOa hja hua hSam hm90; exact absurd hm90 (by omega)
    | succ NZ ih90 =>
      intro A2 j hTa hEa hDa hOa hja hua hSam hm90
      have wa : A2 1 za 2 = m1 := (hDa 1 za 2 (dm_lo (by omega) (by decide) 2)).trans hm1
      have rma : ∀ f9 j9, f9 ≠ 0 → A2 f9 za j9 = A5 f9 za j9 := fun f9 j9 h9 => hDa f9 za j9 (dm_lo (by omega) h9 j9)
      refine m_blk 94 [(8, vi j), (7, vr 1 zo), (5, vr 1 za), (6, vr 1 zb), (0, vr 0 0)] [vr 1 za, vi j] C f_q_choose_cut_90_2 rfl ?_
      obtain ⟨x1, hx1⟩ : ∃ x, A2 1 za 2 = x := ⟨_, rfl⟩
      have rx1 : 0 ≤ x1 ∧ x1 ≤ 301 := mrg hTa hx1 rfl
      refine m_getiN C e_q_choose_cut_94 fg_Mo_272 rfl (by omega) rfl x1 hx1 ?_
      refine m_icmp_ge (tgt := 127) C e_q_choose_cut_97 (by decide) (by omega) (by omega) (fun c2 => ?_) (fun c2 => ?_)
      · refine m_blk 130 [(8, vi 0), (7, vr 1 zo), (5, vr 1 za), (6, vr 1 zb), (0, vr 0 0)] [] C f_q_choose_cut_127_2 rfl ?_
        have hd_130 : ∀ (NZ : Nat) (A3 : mA) (j : Int), mTy A3 → mEq (rm u.toNat) A A3 → mEq (dm (Int.toNat (u + 4))) A5 A3 → oG A3 zo (S1 m1 + S2 j) → 0 ≤ j ∧ j ≤ m2 → A3 0 0 33 = u + 5 → mS A3 → (400 - j) < (NZ : Int) → JM g D ad w0 A3 130 [(8, vi j), (7, vr 1 zo), (5, vr 1 za), (6, vr 1 zb), (0, vr 0 0)] [] := by
          intro NZ
          induction NZ with
          | zero => intro A3 j hTb hEb hDb hOb hjb hub hSbm hm130; exact absurd hm130 (by omega)
          | succ NZ ih130 =>
            intro A3 j hTb hEb hDb hOb hjb hub hSbm hm130
            have wb : A3 1 zb 2 = m2 := (hDb 1 zb 2 (dm_lo (by omega) (by decide) 2)).trans hm2
            have rmb : ∀ f9 j9, f9 ≠ 0 → A3 f9 zb j9 = A5 f9 zb j9 := fun f9 j9 h9 => hDb f9 zb j9 (dm_lo (by omega) h9 j9)
            try clear c2
            try clear hx1
            try clear x1
            try clear hd_130
            try clear rx1
            try clear rma
            try clear wa
            try clear hd_90
            try clear h9
            refine m_blk 134 [(8, vi j), (7, vr 1 zo), (5, vr 1 za), (6, vr 1 zb), (0, vr 0 0)] [vr 1 zb, vi j] C f_q_choose_cut_130_2 rfl ?_
            obtain ⟨x3, hx3⟩ : ∃ x, A3 1 zb 2 = x := ⟨_, rfl⟩
            have rx3 : 0 ≤ x3 ∧ x3 ≤ 301 := mrg hTb hx3 rfl
            refine m_getiN C e_q_choose_cut_134 fg_Mo_272 rfl (by omega) rfl x3 hx3 ?_
            refine m_icmp_ge (tgt := 167) C e_q_choose_cut_137 (by decide) (by omega) (by omega) (fun c4 => ?_) (fun c4 => ?_)
            · refine m_blk 169 [(8, vi j), (7, vr 1 zo), (5, vr 1 za), (6, vr 1 zb), (0, vr 0 0)] [vr 1 zo] C f_q_choose_cut_167_1 rfl ?_
              exact m_aret C Rm E e_q_choose_cut_169 ⟨zo, rfl, hTb, hEb, (by show u ≤ (zo : Int) ∧ (zo : Int) < A3 0 0 33; omega), (by show u + 1 ≤ A3 0 0 33 ∧ A3 0 0 33 ≤ u + 1 + 4 * (5 - dep i.toNat); omega), (hOb.le (by have e9 : j = m2 := (by omega); rw [e9]; omega)), hSbm⟩
            · refine m_blk 144 [(8, vi j), (7, vr 1 zo), (5, vr 1 za), (6, vr 1 zb), (0, vr 0 0)] [vr 1 zb, vr 1 zo] C f_q_choose_cut_140_2 rfl ?_
              refine m_getrN C e_q_choose_cut_144 fg_Mo_279 rfl (by omega) rfl ?_
              refine m_blk 149 [(8, vi j), (7, vr 1 zo), (5, vr 1 za), (6, vr 1 zb), (0, vr 0 0)] [vi j, vr 3 zb, vr 1 zo] C f_q_choose_cut_147_1 rfl ?_
              obtain ⟨x5, hx5⟩ : ∃ x, A3 3 zb j.toNat = x := ⟨_, rfl⟩
              have rx5 : 0 ≤ x5 ∧ x5 ≤ 9999999 := mrg hTb hx5 rfl
              refine m_iald C e_q_choose_cut_149 rfl (by omega) (by decide) (by omega) (by show j < ((301 : Nat) : Int); omega) x5 hx5 ?_
              refine m_blk 152 [(8, vi j), (7, vr 1 zo), (5, vr 1 za), (6, vr 1 zb), (0, vr 0 0)] [vr 1 zb, vi x5, vr 1 zo] C f_q_choose_cut_150_1 rfl ?_
              refine m_getrN C e_q_choose_cut_152 fg_Mo_285 rfl (by omega) rfl ?_
              refine m_blk 157 [(8, vi j), (7, vr 1 zo), (5, vr 1 za), (6, vr 1 zb), (0, vr 0 0)] [vi j, vr 4 zb, vi x5, vr 1 zo] C f_q_choose_cut_155_1 rfl ?_
              obtain ⟨x6, hx6⟩ : ∃ x, A3 4 zb j.toNat = x := ⟨_, rfl⟩
              have rx6 : (-9223372036854775808) ≤ x6 ∧ x6 ≤ 9223372036854775807 := mrg hTb hx6 rfl
              have pwb : 0 ≤ S2 j ∧ 1 ≤ A5 4 zb (Int.toNat j) ∧ S2 j + A5 4 zb (Int.toNat j) ≤ T2 ∧ S2 (j + 1) = S2 j + A5 4 zb (Int.toNat j) := by rw [hS2, hS2]; exact lb5.part (j := j) (by omega) (by omega)
              have ewb : A5 4 zb (Int.toNat j) = x6 := (rmb 4 (Int.toNat j) (by decide)).symm.trans hx6
              rw [ewb] at pwb
              refine m_lald C e_q_choose_cut_157 rfl (by omega) (by decide) (by omega) (by show j < ((301 : Nat) : Int); omega) x6 hx6 ?_
              refine m_callV C Rm Y [vi x5, vl x6] [] (q_come l D B H0 ad _ hTb zo (S1 m1 + S2 j) x5 x6 (by show zo < 200; omega) hOb (by show 0 ≤ x5 ∧ x5 ≤ 9999999; omega) (by show 0 ≤ x6 ∧ 0 ≤ (S1 m1 + S2 j) ∧ (S1 m1 + S2 j) + x6 ≤ 1125899906842624; omega)) cl_Mo_289 rfl (by omega) rfl rfl e_q_choose_cut_158 rfl rfl rfl ⟨by show _ ≤ (201 + 6 * n : Nat); omega, by show _ ≤ (5530 + 150 * n : Nat); omega⟩ ?_
              rintro v7 A8 ⟨rfl, hT_n10, hE_n10, raw_hO_n10⟩
              have hF_n10 := hEb.trans (hE_n10.sub (cm_rm (by omega)))
              have hO_n10 : oG A8 zo ((S1 m1 + S2 j) + x6) := raw_hO_n10
              clear raw_hO_n10
              show JM g D ad w0 A8 161 [(8, vi j), (7, vr 1 zo), (5, vr 1 za), (6, vr 1 zb), (0, vr 0 0)] []
              have ms_n10 : mS A8 := hSbm.cmk hE_n10
              have ku_n10 : A8 0 0 33 = u + 5 := (hE_n10 0 0 33 rfl).trans hub
              refine m_blk 130 [(8, vi (j + 1)), (7, vr 1 zo), (5, vr 1 za), (6, vr 1 zb), (0, vr 0 0)] [] C f_q_choose_cut_161_2 rfl ?_
              refine m_loc [(8, vi (j + 1)), (7, vr 1 zo), (5, vr 1 za), (6, vr 1 zb), (0, vr 0 0)] ⟨rfl, rfl, rfl, rfl, rfl, trivial⟩ ?_
              exact ih130 A8 (j + 1) hT_n10 hF_n10 (hDb.trans (hE_n10.sub (cm_dm (by omega)))) (by rw [pwb.2.2.2, ← Int.add_assoc]; exact hO_n10) (by show 0 ≤ (j + 1) ∧ (j + 1) ≤ m2; omega) (by show A8 0 0 33 = u + 5; omega) ms_n10 (by show (400 - (j + 1)) < _; omega)
        refine m_loc [(8, vi 0), (7, vr 1 zo), (5, vr 1 za), (6, vr 1 zb), (0, vr 0 0)] ⟨rfl, rfl, rfl, rfl, rfl, trivial⟩ ?_
        exact hd_130 (Int.toNat ((400 - 0)) + 1) A2 0 hTa hEa hDa (hOa.le (by have e9 : j = m1 := (by omega); rw [z2, e9]; omega)) (by show 0 ≤ 0 ∧ 0 ≤ m2; omega) (by show A2 0 0 33 = u + 5; omega) hSam (by show (400 - 0) < _; omega)
      · refine m_blk 104 [(8, vi j), (7, vr 1 zo), (5, vr 1 za), (6, vr 1 zb), (0, vr 0 0)] [vr 1 za, vr 1 zo] C f_q_choose_cut_100_2 rfl ?_
        refine m_getrN C e_q_choose_cut_104 fg_Mo_279 rfl (by omega) rfl ?_
        refine m_blk 109 [(8, vi j), (7, vr 1 zo), (5, vr 1 za), (6, vr 1 zb), (0, vr 0 0)] [vi j, vr 3 za, vr 1 zo] C f_q_choose_cut_107_1 rfl ?_
        obtain ⟨x11, hx11⟩ : ∃ x, A2 3 za j.toNat = x := ⟨_, rfl⟩
        have rx11 : 0 ≤ x11 ∧ x11 ≤ 9999999 := mrg hTa hx11 rfl
        refine m_iald C e_q_choose_cut_109 rfl (by omega) (by decide) (by omega) (by show j < ((301 : Nat) : Int); omega) x11 hx11 ?_
        refine m_blk 112 [(8, vi j), (7, vr 1 zo), (5, vr 1 za), (6, vr 1 zb), (0, vr 0 0)] [vr 1 za, vi x11, vr 1 zo] C f_q_choose_cut_110_1 rfl ?_
        refine m_getrN C e_q_choose_cut_112 fg_Mo_285 rfl (by omega) rfl ?_
        refine m_blk 117 [(8, vi j), (7, vr 1 zo), (5, vr 1 za), (6, vr 1 zb), (0, vr 0 0)] [vi j, vr 4 za, vi x11, vr 1 zo] C f_q_choose_cut_115_1 rfl ?_
        obtain ⟨x12, hx12⟩ : ∃ x, A2 4 za j.toNat = x := ⟨_, rfl⟩
        have rx12 : (-9223372036854775808) ≤ x12 ∧ x12 ≤ 9223372036854775807 := mrg hTa hx12 rfl
        have pwa : 0 ≤ S1 j ∧ 1 ≤ A5 4 za (Int.toNat j) ∧ S1 j + A5 4 za (Int.toNat j) ≤ T1 ∧ S1 (j + 1) = S1 j + A5 4 za (Int.toNat j) := by rw [hS1, hS1]; exact la5.part (j := j) (by omega) (by omega)
        have ewa : A5 4 za (Int.toNat j) = x12 := (rma 4 (Int.toNat j) (by decide)).symm.trans hx12
        rw [ewa] at pwa
        refine m_lald C e_q_choose_cut_117 rfl (by omega) (by decide) (by omega) (by show j < ((301 : Nat) : Int); omega) x12 hx12 ?_
        refine m_callV C Rm Y [vi x11, vl x12] [] (q_come l D B H0 ad _ hTa zo (S1 j) x11 x12 (by show zo < 200; omega) hOa (by show 0 ≤ x11 ∧ x11 ≤ 9999999; omega) (by show 0 ≤ x12 ∧ 0 ≤ (S1 j) ∧ (S1 j) + x12 ≤ 1125899906842624; omega)) cl_Mo_289 rfl (by omega) rfl rfl e_q_choose_cut_118 rfl rfl rfl ⟨by show _ ≤ (201 + 6 * n : Nat); omega, by show _ ≤ (5530 + 150 * n : Nat); omega⟩ ?_
        rintro v13 A14 ⟨rfl, hT_n16, hE_n16, raw_hO_n16⟩
        have hF_n16 := hEa.trans (hE_n16.sub (cm_rm (by omega)))
        have hO_n16 : oG A14 zo ((S1 j) + x12) := raw_hO_n16
        clear raw_hO_n16
        show JM g D ad w0 A14 121 [(8, vi j), (7, vr 1 zo), (5, vr 1 za), (6, vr 1 zb), (0, vr 0 0)] []
        have ms_n16 : mS A14 := hSam.cmk hE_n16
        have ku_n16 : A14 0 0 33 = u + 5 := (hE_n16 0 0 33 rfl).trans hua
        refine m_blk 90 [(8, vi (j + 1)), (7, vr 1 zo), (5, vr 1 za), (6, vr 1 zb), (0, vr 0 0)] [] C f_q_choose_cut_121_2 rfl ?_
        refine m_loc [(8, vi (j + 1)), (7, vr 1 zo), (5, vr 1 za), (6, vr 1 zb), (0, vr 0 0)] ⟨rfl, rfl, rfl, rfl, rfl, trivial⟩ ?_
        exact ih90 A14 (j + 1) hT_n16 hF_n16 (hDa.trans (hE_n16.sub (cm_dm (by omega)))) (by rw [pwa.2.2.2]; exact hO_n16) (by show 0 ≤ (j + 1) ∧ (j + 1) ≤ m1; omega) (by show A14 0 0 33 = u + 5; omega) ms_n16 (by show (400 - (j + 1)) < _; omega)
  refine m_loc [(8, vi 0), (7, vr 1 zo), (5, vr 1 za), (6, vr 1 zb), (0, vr 0 0)] ⟨rfl, rfl, rfl, rfl, rfl, trivial⟩ ?_
  exact hd_90 (Int.toNat ((400 - 0)) + 1) A5 0 hT5 hE5 mEq.rfl' (by rw [z1]; exact oG.nil hm5) (by show 0 ≤ 0 ∧ 0 ≤ m1; omega) (by show A5 0 0 33 = u + 5; omega) hS5 (by show (400 - 0) < _; omega)
theorem f_q_choose_0_6 : mblkB b_Mo_choose [(0, .aload_n 0, vi 0), (1, .iload_n 1, vi 0), (2, .iload_n 2, vi 0), (3, .iconst 1, vi 1), (4, .iadd, vi 0), (5, .aload_n 0, vi 0)] = true := by decide +kernel
theorem e_q_choose_6 : decode b_Mo_choose 6 = .ok (.getfield 33, 3) := by decide +kernel
theorem f_q_choose_9_1 : mblkB b_Mo_choose [(9, .iload_n 1, vi 0)] = true := by decide +kernel
theorem e_q_choose_10 : decode b_Mo_choose 10 = .ok (.aaload, 1) := by decide +kernel
theorem f_q_choose_11_1 : mblkB b_Mo_choose [(11, .iload_n 2, vi 0)] = true := by decide +kernel
theorem e_q_choose_12 : decode b_Mo_choose 12 = .ok (.iaload, 1) := by decide +kernel
theorem f_q_choose_13_5 : mblkB b_Mo_choose [(13, .aload_n 0, vi 0), (14, .iload_n 1, vi 0), (15, .iload_n 2, vi 0), (16, .aload_n 3, vi 0), (17, .iconst 1, vi 1)] = true := by decide +kernel
theorem e_q_choose_18 : decode b_Mo_choose 18 = .ok (.invokevirtual 322, 3) := by decide +kernel
theorem f_q_choose_21_1 : mblkB b_Mo_choose [(21, .iload 4, vi 0)] = true := by decide +kernel
theorem e_q_choose_23 : decode b_Mo_choose 23 = .ok (.invokevirtual 336, 3) := by decide +kernel
theorem f_q_choose_26_2 : mblkB b_Mo_choose [(26, .astore 5, vi 0), (28, .aload_n 0, vi 0)] = true := by decide +kernel
theorem e_q_choose_29 : decode b_Mo_choose 29 = .ok (.getfield 297, 3) := by decide +kernel
theorem e_q_choose_32 : decode b_Mo_choose 32 = .ok (.ifCond .eq 6, 3) := by decide +kernel
theorem f_q_choose_38_3 : mblkB b_Mo_choose [(38, .aload_n 0, vi 0), (39, .iload_n 1, vi 0), (40, .aload_n 0, vi 0)] = true := by decide +kernel
theorem e_q_choose_41 : decode b_Mo_choose 41 = .ok (.getfield 33, 3) := by decide +kernel
theorem f_q_choose_44_1 : mblkB b_Mo_choose [(44, .iload_n 1, vi 0)] = true := by decide +kernel
theorem e_q_choose_45 : decode b_Mo_choose 45 = .ok (.aaload, 1) := by decide +kernel
theorem f_q_choose_46_1 : mblkB b_Mo_choose [(46, .iload_n 2, vi 0)] = true := by decide +kernel
theorem e_q_choose_47 : decode b_Mo_choose 47 = .ok (.iaload, 1) := by decide +kernel
theorem f_q_choose_48_1 : mblkB b_Mo_choose [(48, .aload_n 0, vi 0)] = true := by decide +kernel
theorem e_q_choose_49 : decode b_Mo_choose 49 = .ok (.getfield 30, 3) := by decide +kernel
theorem f_q_choose_52_1 : mblkB b_Mo_choose [(52, .iload_n 1, vi 0)] = true := by decide +kernel
theorem e_q_choose_53 : decode b_Mo_choose 53 = .ok (.aaload, 1) := by decide +kernel
theorem f_q_choose_54_1 : mblkB b_Mo_choose [(54, .iload_n 2, vi 0)] = true := by decide +kernel
theorem e_q_choose_55 : decode b_Mo_choose 55 = .ok (.iaload, 1) := by decide +kernel
theorem f_q_choose_56_5 : mblkB b_Mo_choose [(56, .aload_n 0, vi 0), (57, .iload_n 1, vi 0), (58, .iload_n 2, vi 0), (59, .aload_n 3, vi 0), (60, .iconst 0, vi 0)] = true := by decide +kernel
theorem e_q_choose_61 : decode b_Mo_choose 61 = .ok (.invokevirtual 322, 3) := by decide +kernel
theorem f_q_choose_64_1 : mblkB b_Mo_choose [(64, .iload 4, vi 0)] = true := by decide +kernel
theorem e_q_choose_66 : decode b_Mo_choose 66 = .ok (.invokevirtual 336, 3) := by decide +kernel
theorem f_q_choose_69_2 : mblkB b_Mo_choose [(69, .astore 6, vi 0), (71, .aload_n 0, vi 0)] = true := by decide +kernel
theorem e_q_choose_72 : decode b_Mo_choose 72 = .ok (.getfield 297, 3) := by decide +kernel
theorem e_q_choose_75 : decode b_Mo_choose 75 = .ok (.ifCond .eq 6, 3) := by decide +kernel
theorem f_q_choose_81_1 : mblkB b_Mo_choose [(81, .aload_n 0, vi 0)] = true := by decide +kernel
theorem e_q_choose_82 : decode b_Mo_choose 82 = .ok (.invokevirtual 275, 3) := by decide +kernel
theorem f_q_choose_85_3 : mblkB b_Mo_choose [(85, .astore 7, vi 0), (87, .iconst 0, vi 0), (88, .istore 8, vi 0)] = true := by decide +kernel
theorem f_q_choose_78_1 : mblkB b_Mo_choose [(78, .aload 6, vi 0)] = true := by decide +kernel
theorem e_q_choose_80 : decode b_Mo_choose 80 = .ok (.areturn, 1) := by decide +kernel
theorem f_q_choose_35_1 : mblkB b_Mo_choose [(35, .aload 5, vi 0)] = true := by decide +kernel
theorem e_q_choose_37 : decode b_Mo_choose 37 = .ok (.areturn, 1) := by decide +kernel
set_option maxHeartbeats 40000000 in
set_option maxRecDepth 100000 in
theorem q_choose (n : Nat) (hq9 : S_make n) : S_choose n := by
  intro l D B H0 ad A hT u T N M Ln dep p i ki w hp hK ha hi hu hk hO hT9 hw hS hkd
  refine m_met (by decide) rfl (fun g w0 C Rm Y E => ?_)
  have hE0 : mEq (rm u.toNat) A A := mEq.rfl'
  show JM g D ad w0 A 0 [(0, vr 0 0), (1, vi p), (2, vi i), (3, vr 1 ki), (4, vi w)] []
  have hr9 := hK.rng
  have hs9 := hK.at (i := i) (by omega) (by omega)
  have he9 := hs9.en
  have hp9 := hs9.dp
  have ts9 := tS_sum (P := p.toNat) (i := i.toNat) hO (show 0 ≤ A 1 ki 2 from (hT 1 ki 2).1)
  obtain ⟨T1, hT1⟩ : ∃ x, tS A p.toNat i.toNat ki 1 = x := ⟨_, rfl⟩
  obtain ⟨T2, hT2⟩ : ∃ x, tS A p.toNat i.toNat ki 0 = x := ⟨_, rfl⟩
  rw [hT1, hT2] at ts9
  refine m_blk 6 [(0, vr 0 0), (1, vi p), (2, vi i), (3, vr 1 ki), (4, vi w)] [vr 0 0, vi (i + 1), vi p, vr 0 0] C f_q_choose_0_6 rfl ?_
  refine m_getr C e_q_choose_6 fg_Mo_33 rfl (by decide) rfl ?_
  refine m_blk 10 [(0, vr 0 0), (1, vi p), (2, vi i), (3, vr 1 ki), (4, vi w)] [vi p, vr 18 0, vi (i + 1), vi p, vr 0 0] C f_q_choose_9_1 rfl ?_
  refine m_aald C p.toNat e_q_choose_10 rfl rfl rfl (by decide) (by decide) (by omega) (by show p < ((6 : Nat) : Int); omega) (mz _ _) ?_
  refine m_blk 12 [(0, vr 0 0), (1, vi p), (2, vi i), (3, vr 1 ki), (4, vi w)] [vi i, vr 38 p.toNat, vi (i + 1), vi p, vr 0 0] C f_q_choose_11_1 rfl ?_
  obtain ⟨x1, hx1⟩ : ∃ x, A 38 p.toNat i.toNat = x := ⟨_, rfl⟩
  have rx1 : 0 ≤ x1 ∧ x1 ≤ 16 := mrg hT hx1 rfl
  refine m_iald C e_q_choose_12 rfl (by omega) (by decide) (by omega) (by show i < ((16 : Nat) : Int); omega) x1 hx1 ?_
  refine m_blk 18 [(0, vr 0 0), (1, vi p), (2, vi i), (3, vr 1 ki), (4, vi w)] [vi 1, vr 1 ki, vi i, vi p, vr 0 0, vi x1, vi (i + 1), vi p, vr 0 0] C f_q_choose_13_5 rfl ?_
  refine m_callV C Rm Y [vi p, vi i, vr 1 ki, vi 1] [vi x1, vi (i + 1), vi p, vr 0 0] (q_splitX l D B H0 ad _ hT u T N M Ln dep p i ki 1 (by show 0 ≤ p ∧ p ≤ 5; omega) hK (by show 0 ≤ i ∧ i < N; omega) (by show A 0 0 33 = u ∧ 0 ≤ u ∧ u ≤ 199; omega) (by show (ki : Int) < u; omega) hO (by show 0 ≤ T ∧ T ≤ 1125899906842624; omega) (by show A 34 p.toNat i.toNat = 2 ∨ A 34 p.toNat i.toNat = 3; omega) (by show 1 = 0 ∨ 1 = 1; omega)) cl_Mo_322 rfl (by decide) rfl rfl e_q_choose_18 rfl rfl rfl ⟨by show _ ≤ (201 + 6 * n : Nat); omega, by show _ ≤ (5530 + 150 * n : Nat); omega⟩ ?_
  rintro v2 A3 ⟨z6, rfl, hT_n5, hE_n5, raw_hz_n5, raw_hu_n5, raw_hO_n5⟩
  have hF_n5 := hE0.trans (hE_n5.sub (dm_rm (by omega)))
  have hz_n5 : (z6 : Int) = u := raw_hz_n5
  clear raw_hz_n5
  have hu_n5 : A3 0 0 33 = u + 1 := raw_hu_n5
  clear raw_hu_n5
  have hO_n5 : oG A3 z6 (ws (sw1 A p.toNat (A 39 p.toNat i.toNat).toNat ki 1) 0 (A 1 ki 2).toNat) := raw_hO_n5
  clear raw_hO_n5
  show JM g D ad w0 A3 21 [(0, vr 0 0), (1, vi p), (2, vi i), (3, vr 1 ki), (4, vi w)] [vr 1 z6, vi x1, vi (i + 1), vi p, vr 0 0]
  have ms_n5 : mS A3 := hS.dmk hE_n5
  have lv7 : oG A3 ki T := hO.dmk hE_n5 (by omega)
  have o1_n5 : oG A3 z6 T1 := by rw [← hT1]; exact hO_n5
  have ku_n5 : A3 0 0 33 = u + 1 := hu_n5
  refine m_blk 23 [(0, vr 0 0), (1, vi p), (2, vi i), (3, vr 1 ki), (4, vi w)] [vi w, vr 1 z6, vi x1, vi (i + 1), vi p, vr 0 0] C f_q_choose_21_1 rfl ?_
  refine m_callV C Rm Y [vi p, vi (i + 1), vi x1, vr 1 z6, vi w] [] (hq9 l D B H0 ad _ hT_n5 (u + 1) T1 N M Ln dep (dep i.toNat + 1) p (i + 1) x1 z6 w (by show 0 ≤ p ∧ p ≤ 5; omega) (hK.rmk hF_n5) (ha.rmk hF_n5) (by show 0 ≤ (i + 1) ∧ (i + 1) ≤ 16 ∧ 0 ≤ x1 ∧ x1 ≤ N ∧ 20 * p + 17 - (i + 1) ≤ (n : Int); omega) (hs9.dQ (Or.inl hkd) (by omega) (by omega)) (by show A3 0 0 33 = (u + 1) ∧ 0 ≤ (u + 1) ∧ (u + 1) + (19 * p + 23 - 4 * (dep i.toNat + 1)) ≤ 200 ∧ 0 ≤ (dep i.toNat + 1) ∧ (dep i.toNat + 1) ≤ 5; omega) (by show (z6 : Int) < (u + 1); omega) o1_n5 (by show 0 ≤ T1 ∧ T1 ≤ 1125899906842624; omega) (by show -2147483648 ≤ w ∧ w ≤ 2147483647; omega) ms_n5) cl_Mo_336 rfl (by decide) rfl rfl e_q_choose_23 rfl rfl rfl ⟨by show _ ≤ (201 + 6 * n : Nat); omega, by show _ ≤ (5530 + 150 * n : Nat); omega⟩ ?_
  rintro v8 A9 ⟨z12, rfl, hT_n11, hE_n11, raw_hz_n11, raw_hu_n11, raw_hx_n11, raw_hO_n11, raw_hS_n11⟩
  have hF_n11 := hF_n5.trans (hE_n11.sub (rm_rm (by omega)))
  have hz_n11 : (z12 : Int) = (u + 1) := raw_hz_n11
  clear raw_hz_n11
  have hu_n11 : (u + 1) + 1 ≤ A9 0 0 33 ∧ A9 0 0 33 ≤ (u + 1) + 2 + 4 * (5 - (dep i.toNat + 1)) := raw_hu_n11
  clear raw_hu_n11
  have hx_n11 : xQ A9 ((u + 1) + 1) := raw_hx_n11
  clear raw_hx_n11
  have hO_n11 : oG A9 z12 T1 := raw_hO_n11
  clear raw_hO_n11
  have hS_n11 : mS A9 := raw_hS_n11
  clear raw_hS_n11
  show JM g D ad w0 A9 26 [(0, vr 0 0), (1, vi p), (2, vi i), (3, vr 1 ki), (4, vi w)] [vr 1 z12]
  have lv13 : oG A9 ki T := lv7.rmk hE_n11 (by omega)
  refine m_blk 29 [(5, vr 1 z12), (0, vr 0 0), (1, vi p), (2, vi i), (3, vr 1 ki), (4, vi w)] [vr 0 0] C f_q_choose_26_2 rfl ?_
  obtain ⟨x14, hx14⟩ : ∃ x, A9 0 0 34 = x := ⟨_, rfl⟩
  have rx14 : 0 ≤ x14 ∧ x14 ≤ 1 := mrg hT_n11 hx14 rfl
  refine m_geti C e_q_choose_29 fg_Mo_297 rfl (by decide) rfl x14 hx14 ?_
  refine m_if_eq (tgt := 38) C e_q_choose_32 (by decide) (by omega) (fun c15 => ?_) (fun c15 => ?_)
  · have ku1 : A9 0 0 33 = u + 1 + 1 := hx_n11 (by omega)
    have ku2 : A9 0 0 33 = u + 2 := by omega
    have e34 : A9 34 p.toNat i.toNat = A 34 p.toNat i.toNat := hF_n11 34 p.toNat i.toNat (rm_far (by decide) (by decide) _)
    have e37 : A9 37 p.toNat i.toNat = A 37 p.toNat i.toNat := hF_n11 37 p.toNat i.toNat (rm_far (by decide) (by decide) _)
    have e38 : A9 38 p.toNat i.toNat = A 38 p.toNat i.toNat := hF_n11 38 p.toNat i.toNat (rm_far (by decide) (by decide) _)
    try clear c15
    try clear raw_hS_n11
    try clear raw_hO_n11
    try clear raw_hx_n11
    try clear raw_hu_n11
    try clear raw_hz_n11
    try clear hE_n11
    try clear raw_hO_n5
    try clear raw_hu_n5
    try clear raw_hz_n5
    try clear hE_n5
    try clear hT_n5
    try clear z6
    try clear hx1
    try clear x1
    try clear hu_n11
    try clear o1_n5
    try clear lv7
    try clear ms_n5
    try clear hO_n5
    try clear hu_n5
    try clear hF_n5
    try clear rx1
    try clear hE0
    refine m_blk 41 [(5, vr 1 z12), (0, vr 0 0), (1, vi p), (2, vi i), (3, vr 1 ki), (4, vi w)] [vr 0 0, vi p, vr 0 0] C f_q_choose_38_3 rfl ?_
    refine m_getr C e_q_choose_41 fg_Mo_33 rfl (by decide) rfl ?_
    refine m_blk 45 [(5, vr 1 z12), (0, vr 0 0), (1, vi p), (2, vi i), (3, vr 1 ki), (4, vi w)] [vi p, vr 18 0, vi p, vr 0 0] C f_q_choose_44_1 rfl ?_
    refine m_aald C p.toNat e_q_choose_45 rfl rfl rfl (by decide) (by decide) (by omega) (by show p < ((6 : Nat) : Int); omega) (mz _ _) ?_
    refine m_blk 47 [(5, vr 1 z12), (0, vr 0 0), (1, vi p), (2, vi i), (3, vr 1 ki), (4, vi w)] [vi i, vr 38 p.toNat, vi p, vr 0 0] C f_q_choose_46_1 rfl ?_
    obtain ⟨x16, hx16⟩ : ∃ x, A9 38 p.toNat i.toNat = x := ⟨_, rfl⟩
    have rx16 : 0 ≤ x16 ∧ x16 ≤ 16 := mrg hT_n11 hx16 rfl
    refine m_iald C e_q_choose_47 rfl (by omega) (by decide) (by omega) (by show i < ((16 : Nat) : Int); omega) x16 hx16 ?_
    refine m_blk 49 [(5, vr 1 z12), (0, vr 0 0), (1, vi p), (2, vi i), (3, vr 1 ki), (4, vi w)] [vr 0 0, vi x16, vi p, vr 0 0] C f_q_choose_48_1 rfl ?_
    refine m_getr C e_q_choose_49 fg_Mo_30 rfl (by decide) rfl ?_
    refine m_blk 53 [(5, vr 1 z12), (0, vr 0 0), (1, vi p), (2, vi i), (3, vr 1 ki), (4, vi w)] [vi p, vr 17 0, vi x16, vi p, vr 0 0] C f_q_choose_52_1 rfl ?_
    refine m_aald C p.toNat e_q_choose_53 rfl rfl rfl (by decide) (by decide) (by omega) (by show p < ((6 : Nat) : Int); omega) (mz _ _) ?_
    refine m_blk 55 [(5, vr 1 z12), (0, vr 0 0), (1, vi p), (2, vi i), (3, vr 1 ki), (4, vi w)] [vi i, vr 37 p.toNat, vi x16, vi p, vr 0 0] C f_q_choose_54_1 rfl ?_
    obtain ⟨x17, hx17⟩ : ∃ x, A9 37 p.toNat i.toNat = x := ⟨_, rfl⟩
    have rx17 : 0 ≤ x17 ∧ x17 ≤ 16 := mrg hT_n11 hx17 rfl
    refine m_iald C e_q_choose_55 rfl (by omega) (by decide) (by omega) (by show i < ((16 : Nat) : Int); omega) x17 hx17 ?_
    refine m_blk 61 [(5, vr 1 z12), (0, vr 0 0), (1, vi p), (2, vi i), (3, vr 1 ki), (4, vi w)] [vi 0, vr 1 ki, vi i, vi p, vr 0 0, vi x17, vi x16, vi p, vr 0 0] C f_q_choose_56_5 rfl ?_
    refine m_callV C Rm Y [vi p, vi i, vr 1 ki, vi 0] [vi x17, vi x16, vi p, vr 0 0] (q_splitX l D B H0 ad _ hT_n11 (u + 2) T N M Ln dep p i ki 0 (by show 0 ≤ p ∧ p ≤ 5; omega) (hK.rmk hF_n11) (by show 0 ≤ i ∧ i < N; omega) (by show A9 0 0 33 = (u + 2) ∧ 0 ≤ (u + 2) ∧ (u + 2) ≤ 199; omega) (by show (ki : Int) < (u + 2); omega) lv13 (by show 0 ≤ T ∧ T ≤ 1125899906842624; omega) (by show A9 34 p.toNat i.toNat = 2 ∨ A9 34 p.toNat i.toNat = 3; omega) (by show 0 = 0 ∨ 0 = 1; omega)) cl_Mo_322 rfl (by decide) rfl rfl e_q_choose_61 rfl rfl rfl ⟨by show _ ≤ (201 + 6 * n : Nat); omega, by show _ ≤ (5530 + 150 * n : Nat); omega⟩ ?_
    rintro v18 A19 ⟨z22, rfl, hT_n21, hE_n21, raw_hz_n21, raw_hu_n21, raw_hO_n21⟩
    have hF_n21 := hF_n11.trans (hE_n21.sub (dm_rm (by omega)))
    have hz_n21 : (z22 : Int) = (u + 2) := raw_hz_n21
    clear raw_hz_n21
    have hu_n21 : A19 0 0 33 = (u + 2) + 1 := raw_hu_n21
    clear raw_hu_n21
    have hO_n21 : oG A19 z22 (ws (sw1 A9 p.toNat (A9 39 p.toNat i.toNat).toNat ki 0) 0 (A9 1 ki 2).toNat) := raw_hO_n21
    clear raw_hO_n21
    show JM g D ad w0 A19 64 [(5, vr 1 z12), (0, vr 0 0), (1, vi p), (2, vi i), (3, vr 1 ki), (4, vi w)] [vr 1 z22, vi x17, vi x16, vi p, vr 0 0]
    have ms_n21 : mS A19 := hS_n11.dmk hE_n21
    have lv23 : oG A19 ki T := lv13.dmk hE_n21 (by omega)
    have lv24 : oG A19 z12 T1 := hO_n11.dmk hE_n21 (by omega)
    have o2_n21 : oG A19 z22 T2 := by rw [← hT2, ← tS_rmk (A9 := A9) hF_n11 (show ki < u.toNat by omega)]; exact hO_n21
    have ku_n21 : A19 0 0 33 = u + 3 := (by have h9 := hu_n21; omega)
    refine m_blk 66 [(5, vr 1 z12), (0, vr 0 0), (1, vi p), (2, vi i), (3, vr 1 ki), (4, vi w)] [vi w, vr 1 z22, vi x17, vi x16, vi p, vr 0 0] C f_q_choose_64_1 rfl ?_
    refine m_callV C Rm Y [vi p, vi x16, vi x17, vr 1 z22, vi w] [] (hq9 l D B H0 ad _ hT_n21 (u + 3) T2 N M Ln dep (dep i.toNat + 1) p x16 x17 z22 w (by show 0 ≤ p ∧ p ≤ 5; omega) (hK.rmk hF_n21) (ha.rmk hF_n21) (by show 0 ≤ x16 ∧ x16 ≤ 16 ∧ 0 ≤ x17 ∧ x17 ≤ N ∧ 20 * p + 17 - x16 ≤ (n : Int); omega) (hs9.dQ (Or.inl hkd) (by omega) (by omega)) (by show A19 0 0 33 = (u + 3) ∧ 0 ≤ (u + 3) ∧ (u + 3) + (19 * p + 23 - 4 * (dep i.toNat + 1)) ≤ 200 ∧ 0 ≤ (dep i.toNat + 1) ∧ (dep i.toNat + 1) ≤ 5; omega) (by show (z22 : Int) < (u + 3); omega) o2_n21 (by show 0 ≤ T2 ∧ T2 ≤ 1125899906842624; omega) (by show -2147483648 ≤ w ∧ w ≤ 2147483647; omega) ms_n21) cl_Mo_336 rfl (by decide) rfl rfl e_q_choose_66 rfl rfl rfl ⟨by show _ ≤ (201 + 6 * n : Nat); omega, by show _ ≤ (5530 + 150 * n : Nat); omega⟩ ?_
    rintro v25 A26 ⟨z29, rfl, hT_n28, hE_n28, raw_hz_n28, raw_hu_n28, raw_hx_n28, raw_hO_n28, raw_hS_n28⟩
    have hF_n28 := hF_n21.trans (hE_n28.sub (rm_rm (by omega)))
    have hz_n28 : (z29 : Int) = (u + 3) := raw_hz_n28
    clear raw_hz_n28
    have hu_n28 : (u + 3) + 1 ≤ A26 0 0 33 ∧ A26 0 0 33 ≤ (u + 3) + 2 + 4 * (5 - (dep i.toNat + 1)) := raw_hu_n28
    clear raw_hu_n28
    have hx_n28 : xQ A26 ((u + 3) + 1) := raw_hx_n28
    clear raw_hx_n28
    have hO_n28 : oG A26 z29 T2 := raw_hO_n28
    clear raw_hO_n28
    have hS_n28 : mS A26 := raw_hS_n28
    clear raw_hS_n28
    show JM g D ad w0 A26 69 [(5, vr 1 z12), (0, vr 0 0), (1, vi p), (2, vi i), (3, vr 1 ki), (4, vi w)] [vr 1 z29]
    have lv30 : oG A26 ki T := lv23.rmk hE_n28 (by omega)
    have lv31 : oG A26 z12 T1 := lv24.rmk hE_n28 (by omega)
    refine m_blk 72 [(6, vr 1 z29), (5, vr 1 z12), (0, vr 0 0), (1, vi p), (2, vi i), (3, vr 1 ki), (4, vi w)] [vr 0 0] C f_q_choose_69_2 rfl ?_
    obtain ⟨x32, hx32⟩ : ∃ x, A26 0 0 34 = x := ⟨_, rfl⟩
    have rx32 : 0 ≤ x32 ∧ x32 ≤ 1 := mrg hT_n28 hx32 rfl
    refine m_geti C e_q_choose_72 fg_Mo_297 rfl (by decide) rfl x32 hx32 ?_
    refine m_if_eq (tgt := 81) C e_q_choose_75 (by decide) (by omega) (fun c33 => ?_) (fun c33 => ?_)
    · have ku3 : A26 0 0 33 = u + 3 + 1 := hx_n28 (by omega)
      have ku4 : A26 0 0 33 = u + 4 := by omega
      try clear c33
      try clear c15
      try clear raw_hS_n28
      try clear raw_hO_n28
      try clear raw_hx_n28
      try clear raw_hu_n28
      try clear raw_hz_n28
      try clear hE_n28
      try clear raw_hO_n21
      try clear raw_hu_n21
      try clear raw_hz_n21
      try clear hE_n21
      try clear hT_n21
      try clear z22
      try clear hx17
      try clear x17
      try clear hx16
      try clear x16
      try clear hx14
      try clear x14
      try clear raw_hS_n11
      try clear raw_hO_n11
      try clear raw_hx_n11
      try clear raw_hu_n11
      try clear raw_hz_n11
      try clear hE_n11
      try clear hT_n11
      try clear raw_hO_n5
      try clear raw_hu_n5
      try clear raw_hz_n5
      try clear hE_n5
      try clear hT_n5
      try clear z6
      try clear hx1
      try clear x1
      try clear lv30
      try clear hu_n28
      try clear h9
      try clear o2_n21
      try clear lv24
      try clear lv23
      try clear ms_n21
      try clear hO_n21
      try clear hu_n21
      try clear hF_n21
      try clear rx17
      try clear rx16
      try clear rx14
      try clear lv13
      try clear hS_n11
      try clear hO_n11
      try clear hx_n11
      try clear hu_n11
      try clear o1_n5
      try clear lv7
      try clear ms_n5
      try clear hO_n5
      try clear hu_n5
      try clear hF_n5
      try clear rx1
      try clear he9
      try clear hs9
      try clear hE0
      refine m_blk 82 [(6, vr 1 z29), (5, vr 1 z12), (0, vr 0 0), (1, vi p), (2, vi i), (3, vr 1 ki), (4, vi w)] [vr 0 0] C f_q_choose_81_1 rfl ?_
      refine m_callV C Rm Y [] [] (q_taken l D B H0 ad _ hT_n28 (u + 4) (by show A26 0 0 33 = (u + 4) ∧ 0 ≤ (u + 4) ∧ (u + 4) ≤ 199; omega)) cl_Mo_275 rfl (by decide) rfl rfl e_q_choose_82 rfl rfl rfl ⟨by show _ ≤ (201 + 6 * n : Nat); omega, by show _ ≤ (5530 + 150 * n : Nat); omega⟩ ?_
      rintro v34 A35 ⟨z38, rfl, hT_n37, hE_n37, raw_hz_n37, raw_hu_n37, raw_hm_n37⟩
      have hF_n37 := hF_n28.trans (hE_n37.sub (tk_rm (by omega)))
      have hz_n37 : (z38 : Int) = (u + 4) := raw_hz_n37
      clear raw_hz_n37
      have hu_n37 : A35 0 0 33 = (u + 4) + 1 := raw_hu_n37
      clear raw_hu_n37
      have hm_n37 : A35 1 z38 2 = 0 := raw_hm_n37
      clear raw_hm_n37
      show JM g D ad w0 A35 85 [(6, vr 1 z29), (5, vr 1 z12), (0, vr 0 0), (1, vi p), (2, vi i), (3, vr 1 ki), (4, vi w)] [vr 1 z38]
      have ms_n37 : mS A35 := hS_n28.tkk hE_n37
      have lv39 : oG A35 z12 T1 := lv31.tkk hE_n37 (by omega)
      have lv40 : oG A35 z29 T2 := hO_n28.tkk hE_n37 (by omega)
      have ku_n37 : A35 0 0 33 = u + 5 := (by have h9 := hu_n37; omega)
      refine m_blk 90 [(8, vi 0), (7, vr 1 z38), (6, vr 1 z29), (5, vr 1 z12), (0, vr 0 0), (1, vi p), (2, vi i), (3, vr 1 ki), (4, vi w)] [] C f_q_choose_85_3 rfl ?_
      refine m_loc [(8, vi 0), (7, vr 1 z38), (5, vr 1 z12), (6, vr 1 z29), (0, vr 0 0)] ⟨rfl, rfl, rfl, rfl, rfl, trivial⟩ ?_
      exact q_choose_cut n l D B H0 ad A A35 u T T1 T2 dep i z12 z29 z38 g w0 C Rm Y E hT_n37 hF_n37 lv39 lv40 hm_n37 ku_n37 ms_n37 (by omega) (by omega) (by omega) hp9
    · refine m_blk 80 [(6, vr 1 z29), (5, vr 1 z12), (0, vr 0 0), (1, vi p), (2, vi i), (3, vr 1 ki), (4, vi w)] [vr 1 z29] C f_q_choose_78_1 rfl ?_
      exact m_aret C Rm E e_q_choose_80 ⟨z29, rfl, hT_n28, hF_n28, (by show u ≤ (z29 : Int) ∧ (z29 : Int) < A26 0 0 33; omega), (by show u + 1 ≤ A26 0 0 33 ∧ A26 0 0 33 ≤ u + 1 + 4 * (5 - dep i.toNat); omega), (hO_n28.le (by omega)), hS_n28⟩
  · refine m_blk 37 [(5, vr 1 z12), (0, vr 0 0), (1, vi p), (2, vi i), (3, vr 1 ki), (4, vi w)] [vr 1 z12] C f_q_choose_35_1 rfl ?_
    exact m_aret C Rm E e_q_choose_37 ⟨z12, rfl, hT_n11, hF_n11, (by show u ≤ (z12 : Int) ∧ (z12 : Int) < A9 0 0 33; omega), (by show u + 1 ≤ A9 0 0 33 ∧ A9 0 0 33 ≤ u + 1 + 4 * (5 - dep i.toNat); omega), (hO_n11.le (by omega)), hS_n11⟩
