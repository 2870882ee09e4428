/-! the reference: blocks made, programs told, run on (own work, by program) -/
theorem ws_mono {w : Nat → Int} : ∀ n m : Nat, n ≤ m → (∀ v, v < m → 0 ≤ w v) → ws w 0 n ≤ ws w 0 m
  | n, 0, hm, _ => by
    have : n = 0 := by omega
    subst this; exact Int.le_refl _
  | n, m + 1, hm, h => by
    by_cases c : n = m + 1
    · subst c; exact Int.le_refl _
    · have h1 := ws_mono n m (by omega) (fun v hv => h v (by omega))
      have h2 := h m (by omega)
      show ws w 0 n ≤ ws w 0 m + w (0 + m)
      rw [Nat.zero_add]
      omega
/-- a row of what was made -/
theorem mS.row {A : mA} (h : mS A) (c : Nat) : (∀ v : Int, 0 ≤ v → v < 10 → 0 ≤ A 51 c v.toNat ∧ A 51 c v.toNat ≤ 1125899906842624 ∧ ws (A 51 c) 0 (v + 1).toNat = ws (A 51 c) 0 v.toNat + A 51 c v.toNat) ∧ ∀ v : Int, 0 ≤ v → v ≤ 10 → 0 ≤ ws (A 51 c) 0 v.toNat ∧ ws (A 51 c) 0 v.toNat ≤ 1125899906842624 := by
  have h1 := h c
  refine ⟨fun v h0 hv => ?_, fun v h0 hv => ?_⟩
  · have h2 := (ws_e0 (w := A 51 c) 10 h1.1).2 v.toNat (by omega)
    exact ⟨h1.1 v.toNat (by omega), by omega, ws1 _ h0⟩
  · have h2 := ws_mono (w := A 51 c) v.toNat 10 (by omega) h1.1
    have h3 := (ws_e0 (w := A 51 c) v.toNat (fun x hx => h1.1 x (by omega))).1
    exact ⟨h3, by omega⟩
def S_choose (n : Nat) : Prop := ∀ (l : Launch) (D : va_G) (B : Nat) (H0 : Heap) (ad : mAd) (A : mA) (hT : mTy A) (u : Int) (T : Int) (N : Int) (M : Int) (Ln : Int) (dep : Nat → Int) (p : Int) (i : Int) (ki : Nat) (w : Int) (hp : 0 ≤ p ∧ p ≤ 5) (hK : pK A p.toNat N M Ln dep) (ha : aOk A p) (hi : 0 ≤ i ∧ i < N ∧ 20 * p + 16 - i ≤ (n : Int)) (hu : A 0 0 33 = u ∧ 0 ≤ u ∧ u + (19 * p + 22 - 4 * dep i.toNat) ≤ 200) (hk : (ki : Int) < u) (hO : oG A ki T) (hT9 : 0 ≤ T ∧ T ≤ 1125899906842624) (hw : -2147483648 ≤ w ∧ w ≤ 2147483647) (hS : mS A) (hkd : A 34 p.toNat i.toNat = 3) , mMet l D B H0 ad y_Mo_choose b_Mo_choose 9 (some (.object "ChanceStepsModel$Odds")) (201 + 6 * n) (5530 + 150 * n) [vr 0 0, vi p, vi i, vr 1 ki, vi w] A (fun v9 A9 => ∃ z : Nat, v9 = some (vr 1 z) ∧ mTy A9 ∧ mEq (rm u.toNat) A A9 ∧ (u ≤ (z : Int) ∧ (z : Int) < A9 0 0 33) ∧ (u + 1 ≤ A9 0 0 33 ∧ A9 0 0 33 ≤ u + 1 + 4 * (5 - dep i.toNat)) ∧ (oG A9 z T) ∧ (mS A9))
def S_make (n : Nat) : Prop := ∀ (l : Launch) (D : va_G) (B : Nat) (H0 : Heap) (ad : mAd) (A : mA) (hT : mTy A) (u : Int) (T : Int) (N : Int) (M : Int) (Ln : Int) (dep : Nat → Int) (d : Int) (p : Int) (a : Int) (b : Int) (ki : Nat) (w : Int) (hp : 0 ≤ p ∧ p ≤ 5) (hK : pK A p.toNat N M Ln dep) (ha : aOk A p) (hab : 0 ≤ a ∧ a ≤ 16 ∧ 0 ≤ b ∧ b ≤ N ∧ 20 * p + 17 - a ≤ (n : Int)) (hd : dQ dep a b d) (hu : A 0 0 33 = u ∧ 0 ≤ u ∧ u + (19 * p + 23 - 4 * d) ≤ 200 ∧ 0 ≤ d ∧ d ≤ 5) (hk : (ki : Int) < u) (hO : oG A ki T) (hT9 : 0 ≤ T ∧ T ≤ 1125899906842624) (hw : -2147483648 ≤ w ∧ w ≤ 2147483647) (hS : mS A) , mMet l D B H0 ad y_Mo_make b_Mo_make 11 (some (.object "ChanceStepsModel$Odds")) (200 + 6 * n) (5500 + 150 * n) [vr 0 0, vi p, vi a, vi b, vr 1 ki, vi w] A (fun v9 A9 => ∃ z : Nat, v9 = some (vr 1 z) ∧ mTy A9 ∧ mEq (rm u.toNat) A A9 ∧ ((z : Int) = u) ∧ (u + 1 ≤ A9 0 0 33 ∧ A9 0 0 33 ≤ u + 2 + 4 * (5 - d)) ∧ (xQ A9 (u + 1)) ∧ (oG A9 z T) ∧ (mS A9))
def S_makeStep (n : Nat) : Prop := ∀ (l : Launch) (D : va_G) (B : Nat) (H0 : Heap) (ad : mAd) (A : mA) (hT : mTy A) (u : Int) (T : Int) (N : Int) (M : Int) (Ln : Int) (dep : Nat → Int) (p : Int) (i : Int) (ki : Nat) (w : Int) (hp : 0 ≤ p ∧ p ≤ 5) (hK : pK A p.toNat N M Ln dep) (ha : aOk A p) (hi : 0 ≤ i ∧ i < N ∧ 20 * p + 16 - i ≤ (n : Int)) (hu : A 0 0 33 = u ∧ 0 ≤ u ∧ u + (19 * p + 22 - 4 * dep i.toNat) ≤ 200) (hk : (ki : Int) < u) (hO : oG A ki T) (hT9 : 0 ≤ T ∧ T ≤ 1125899906842624) (hw : -2147483648 ≤ w ∧ w ≤ 2147483647) (hS : mS A) , mMet l D B H0 ad y_Mo_makeStep b_Mo_makeStep 5 (some (.object "ChanceStepsModel$Odds")) (203 + 6 * n) (5590 + 150 * n) [vr 0 0, vi p, vi i, vr 1 ki, vi w] A (fun v9 A9 => ∃ z : Nat, v9 = some (vr 1 z) ∧ mTy A9 ∧ mEq (rm u.toNat) A A9 ∧ (u ≤ (z : Int) ∧ (z : Int) < A9 0 0 33) ∧ (u + 1 ≤ A9 0 0 33 ∧ A9 0 0 33 ≤ u + 1 + 4 * (5 - dep i.toNat)) ∧ (oG A9 z T) ∧ (mS A9))
theorem f_q_choose_cut_90_2 : mblkB b_Mo_choose [(90, .iload 8, vi 0), (92, .aload 5, vi 0)] = true := by decide +kernel
theorem e_q_choose_cut_94 : decode b_Mo_choose 94 = .ok (.getfield 272, 3) := by decide +kernel
theorem e_q_choose_cut_97 : decode b_Mo_choose 97 = .ok (.if_icmp .ge 30, 3) := by decide +kernel
theorem f_q_choose_cut_127_2 : mblkB b_Mo_choose [(127, .iconst 0, vi 0), (128, .istore 8, vi 0)] = true := by decide +kernel
theorem f_q_choose_cut_130_2 : mblkB b_Mo_choose [(130, .iload 8, vi 0), (132, .aload 6, vi 0)] = true := by decide +kernel
theorem e_q_choose_cut_134 : decode b_Mo_choose 134 = .ok (.getfield 272, 3) := by decide +kernel
theorem e_q_choose_cut_137 : decode b_Mo_choose 137 = .ok (.if_icmp .ge 30, 3) := by decide +kernel
theorem f_q_choose_cut_167_1 : mblkB b_Mo_choose [(167, .aload 7, vi 0)] = true := by decide +kernel
theorem e_q_choose_cut_169 : decode b_Mo_choose 169 = .ok (.areturn, 1) := by decide +kernel
theorem f_q_choose_cut_140_2 : mblkB b_Mo_choose [(140, .aload 7, vi 0), (142, .aload 6, vi 0)] = true := by decide +kernel
theorem e_q_choose_cut_144 : decode b_Mo_choose 144 = .ok (.getfield 279, 3) := by decide +kernel
theorem f_q_choose_cut_147_1 : mblkB b_Mo_choose [(147, .iload 8, vi 0)] = true := by decide +kernel
theorem e_q_choose_cut_149 : decode b_Mo_choose 149 = .ok (.iaload, 1) := by decide +kernel
theorem f_q_choose_cut_150_1 : mblkB b_Mo_choose [(150, .aload 6, vi 0)] = true := by decide +kernel
theorem e_q_choose_cut_152 : decode b_Mo_choose 152 = .ok (.getfield 285, 3) := by decide +kernel
theorem f_q_choose_cut_155_1 : mblkB b_Mo_choose [(155, .iload 8, vi 0)] = true := by decide +kernel
theorem e_q_choose_cut_157 : decode b_Mo_choose 157 = .ok (.laload, 1) := by decide +kernel
theorem e_q_choose_cut_158 : decode b_Mo_choose 158 = .ok (.invokevirtual 289, 3) := by decide +kernel
theorem f_q_choose_cut_161_2 : mblkB b_Mo_choose [(161, .iinc 8 1, vi 1), (164, .goto (-34), vi 130)] = true := by decide +kernel
theorem f_q_choose_cut_100_2 : mblkB b_Mo_choose [(100, .aload 7, vi 0), (102, .aload 5, vi 0)] = true := by decide +kernel
theorem e_q_choose_cut_104 : decode b_Mo_choose 104 = .ok (.getfield 279, 3) := by decide +kernel
theorem f_q_choose_cut_107_1 : mblkB b_Mo_choose [(107, .iload 8, vi 0)] = true := by decide +kernel
theorem e_q_choose_cut_109 : decode b_Mo_choose 109 = .ok (.iaload, 1) := by decide +kernel
theorem f_q_choose_cut_110_1 : mblkB b_Mo_choose [(110, .aload 5, vi 0)] = true := by decide +kernel
theorem e_q_choose_cut_112 : decode b_Mo_choose 112 = .ok (.getfield 285, 3) := by decide +kernel
theorem f_q_choose_cut_115_1 : mblkB b_Mo_choose [(115, .iload 8, vi 0)] = true := by decide +kernel
theorem e_q_choose_cut_117 : decode b_Mo_choose 117 = .ok (.laload, 1) := by decide +kernel
theorem e_q_choose_cut_118 : decode b_Mo_choose 118 = .ok (.invokevirtual 289, 3) := by decide +kernel
theorem f_q_choose_cut_121_2 : mblkB b_Mo_choose [(121, .iinc 8 1, vi 1), (124, .goto (-34), vi 90)] = true := by decide +kernel
set_option maxHeartbeats 40000000 in
set_option maxRecDepth 100000 in
theorem q_choose_cut (n : Nat) (l : Launch) (D : va_G) (B : Nat) (H0 : Heap) (ad : mAd) (A A5 : mA) (u T T1 T2 : Int) (dep : Nat → Int) (i : Int) (za zb zo : Nat) (g : jG) (w0 : jW) (C : jX g b_Mo_choose 9 (y_Mo_choose).cls D) (Rm : jRm g w0.2.1 w0.2.2 { frames := (201 + 6 * n), cells := 0, slots := 0, locals := (5530 + 150 * n) }) (Y : jY g l B H0 y_Mo_choose) (E : jEnd g (mPost D ad w0 (fun v9 A9 => ∃ z : Nat, v9 = some (vr 1 z) ∧ mTy A9 ∧ mEq (rm u.toNat) A A9 ∧ (u ≤ (z : Int) ∧ (z : Int) < A9 0 0 33) ∧ (u + 1 ≤ A9 0 0 33 ∧ A9 0 0 33 ≤ u + 1 + 4 * (5 - dep i.toNat)) ∧ (oG A9 z T) ∧ (mS A9))) 0 0 (some (.object "ChanceStepsModel$Odds"))) (hT5 : mTy A5) (hE5 : mEq (rm u.toNat) A A5) (la5 : oG A5 za T1) (lb5 : oG A5 zb T2) (hm5 : A5 1 zo 2 = 0) (ku5 : A5 0 0 33 = u + 5) (hS5 : mS A5) (hz5 : (za : Int) = u + 1 ∧ (zb : Int) = u + 3 ∧ (zo : Int) = u + 4) (ts9 : 0 ≤ T1 ∧ 0 ≤ T2 ∧ T1 + T2 ≤ T ∧ T ≤ 1125899906842624) (hu : 0 ≤ u ∧ u ≤ 194) (hp9 : 0 ≤ dep i.toNat ∧ dep i.toNat ≤ 4) : JM g D ad w0 A5 90 [(8, vi 0), (7, vr 1 zo), (5, vr 1 za), (6, vr 1 zb), (0, vr 0 0)] [] := by
  have ra9 : 0 ≤ A5 1 za 2 ∧ A5 1 za 2 ≤ 301 := hT5 1 za 2
  have rb9 : 0 ≤ A5 1 zb 2 ∧ A5 1 zb 2 ≤ 301 := hT5 1 zb 2
  obtain ⟨S1, hS1⟩ : ∃ f : Int → Int, ∀ j, f j = ws (A5 4 za) 0 (Int.toNat j) := ⟨_, fun _ => rfl⟩
  obtain ⟨S2, hS2⟩ : ∃ f : Int → Int, ∀ j, f j = ws (A5 4 zb) 0 (Int.toNat j) := ⟨_, fun _ => rfl⟩
  have t19 := (la5.tot ra9.1).2
  have t29 := (lb5.tot rb9.1).2
  obtain ⟨m1, hm1⟩ : ∃ x, A5 1 za 2 = x := ⟨_, rfl⟩
  obtain ⟨m2, hm2⟩ : ∃ x, A5 1 zb 2 = x := ⟨_, rfl⟩
  rw [hm1, ← hS1] at t19
  rw [hm2, ← hS2] at t29
  rw [hm1] at ra9
  rw [hm2] at rb9
  have z1 : S1 0 = 0 := by rw [hS1]; rfl
  have z2 : S2 0 = 0 := by rw [hS2]; rfl
  have sa0 : 0 ≤ S1 m1 := by
    rw [hS1, ← hm1]
    have h9 := (ws_e0 (w := A5 4 za) (Int.toNat (A5 1 za 2)) (fun v hv => by have h8 := la5.1 v (by omega); omega)).1
    exact h9
  have hd_90 : ∀ (NZ : Nat) (A2 : mA) (j : Int), mTy A2 → mEq (rm u.toNat) A A2 → mEq (dm (Int.toNat (u + 4))) A5 A2 → oG A2 zo (S1 j) → 0 ≤ j ∧ j ≤ m1 → A2 0 0 33 = u + 5 → mS A2 → (400 - j) < (NZ : Int) → JM g D ad w0 A2 90 [(8, vi j), (7, vr 1 zo), (5, vr 1 za), (6, vr 1 zb), (0, vr 0 0)] [] := by
    intro NZ
    induction NZ with
    | zero => intro A2 j hTa hEa hDa hOa hja hua hSam hm90; exact absurd hm90 (by omega)
    | succ NZ ih90 =>
      intro A2 j hTa hEa hDa hOa hja hua hSam hm90
      have wa : A2 1 za 2 = m1 := (hDa 1 za 2 (dm_lo (by omega) (by decide) 2)).trans hm1
      have rma : ∀ f9 j9, f9 ≠ 0 → A2 f9 za j9 = A5 f9 za j9 := fun f9 j9 h9 => hDa f9 za j9 (dm_lo (by omega) h9 j9)
      refine m_blk 94 [(8, vi j), (7, vr 1 zo), (5, vr 1 za), (6, vr 1 zb), (0, vr 0 0)] [vr 1 za, vi j] C f_q_choose_cut_90_2 rfl ?_
      obtain ⟨x1, hx1⟩ : ∃ x, A2 1 za 2 = x := ⟨_, rfl⟩
      have rx1 : 0 ≤ x1 ∧ x1 ≤ 301 := mrg hTa hx1 rfl
      refine m_getiN C e_q_choose_cut_94 fg_Mo_272 rfl (by omega) rfl x1 hx1 ?_
      refine m_icmp_ge (tgt := 127) C e_q_choose_cut_97 (by decide) (by omega) (by omega) (fun c2 => ?_) (fun c2 => ?_)
      · refine m_blk 130 [(8, vi 0), (7, vr 1 zo), (5, vr 1 za), (6, vr 1 zb), (0, vr 0 0)] [] C f_q_choose_cut_127_2 rfl ?_
        have hd_130 : ∀ (NZ : Nat) (A3 : mA) (j : Int), mTy A3 → mEq (rm u.toNat) A A3 → mEq (dm (Int.toNat (u + 4))) A5 A3 → oG A3 zo (S1 m1 + S2 j) → 0 ≤ j ∧ j ≤ m2 → A3 0 0 33 = u + 5 → mS A3 → (400 - j) < (NZ : Int) → JM g D ad w0 A3 130 [(8, vi j), (7, vr 1 zo), (5, vr 1 za), (6, vr 1 zb), (0, vr 0 0)] [] := by
          intro NZ
          induction NZ with
          | zero => intro A3 j hTb hEb hDb hOb hjb hub hSbm hm130; exact absurd hm130 (by omega)
          | succ NZ ih130 =>
            intro A3 j hTb hEb hDb hOb hjb hub hSbm hm130
            have wb : A3 1 zb 2 = m2 := (hDb 1 zb 2 (dm_lo (by omega) (by decide) 2)).trans hm2
            have rmb : ∀ f9 j9, f9 ≠ 0 → A3 f9 zb j9 = A5 f9 zb j9 := fun f9 j9 h9 => hDb f9 zb j9 (dm_lo (by omega) h9 j9)
            try clear c2
            try clear hx1
            try clear x1
            try clear hd_130
            try clear rx1
            try clear rma
            try clear wa
            try clear hd_90
            try clear h9
            refine m_blk 134 [(8, vi j), (7, vr 1 zo), (5, vr 1 za), (6, vr 1 zb), (0, vr 0 0)] [vr 1 zb, vi j] C f_q_choose_cut_130_2 rfl ?_
            obtain ⟨x3, hx3⟩ : ∃ x, A3 1 zb 2 = x := ⟨_, rfl⟩
            have rx3 : 0 ≤ x3 ∧ x3 ≤ 301 := mrg hTb hx3 rfl
            refine m_getiN C e_q_choose_cut_134 fg_Mo_272 rfl (by omega) rfl x3 hx3 ?_
            refine m_icmp_ge (tgt := 167) C e_q_choose_cut_137 (by decide) (by omega) (by omega) (fun c4 => ?_) (fun c4 => ?_)
            · refine m_blk 169 [(8, vi j), (7, vr 1 zo), (5, vr 1 za), (6, vr 1 zb), (0, vr 0 0)] [vr 1 zo] C f_q_choose_cut_167_1 rfl ?_
              exact m_aret C Rm E e_q_choose_cut_169 ⟨zo, rfl, hTb, hEb, (by show u ≤ (zo : Int) ∧ (zo : Int) < A3 0 0 33; omega), (by show u + 1 ≤ A3 0 0 33 ∧ A3 0 0 33 ≤ u + 1 + 4 * (5 - dep i.toNat); omega), (hOb.le (by have e9 : j = m2 := (by omega); rw [e9]; omega)), hSbm⟩
            · refine m_blk 144 [(8, vi j), (7, vr 1 zo), (5, vr 1 za), (6, vr 1 zb), (0, vr 0 0)] [vr 1 zb, vr 1 zo] C f_q_choose_cut_140_2 rfl ?_
              refine m_getrN C e_q_choose_cut_144 fg_Mo_279 rfl (by omega) rfl ?_
              refine m_blk 149 [(8, vi j), (7, vr 1 zo), (5, vr 1 za), (6, vr 1 zb), (0, vr 0 0)] [vi j, vr 3 zb, vr 1 zo] C f_q_choose_cut_147_1 rfl ?_
              obtain ⟨x5, hx5⟩ : ∃ x, A3 3 zb j.toNat = x := ⟨_, rfl⟩
              have rx5 : 0 ≤ x5 ∧ x5 ≤ 9999999 := mrg hTb hx5 rfl
              refine m_iald C e_q_choose_cut_149 rfl (by omega) (by decide) (by omega) (by show j < ((301 : Nat) : Int); omega) x5 hx5 ?_
              refine m_blk 152 [(8, vi j), (7, vr 1 zo), (5, vr 1 za), (6, vr 1 zb), (0, vr 0 0)] [vr 1 zb, vi x5, vr 1 zo] C f_q_choose_cut_150_1 rfl ?_
              refine m_getrN C e_q_choose_cut_152 fg_Mo_285 rfl (by omega) rfl ?_
              refine m_blk 157 [(8, vi j), (7, vr 1 zo), (5, vr 1 za), (6, vr 1 zb), (0, vr 0 0)] [vi j, vr 4 zb, vi x5, vr 1 zo] C f_q_choose_cut_155_1 rfl ?_
              obtain ⟨x6, hx6⟩ : ∃ x, A3 4 zb j.toNat = x := ⟨_, rfl⟩
              have rx6 : (-9223372036854775808) ≤ x6 ∧ x6 ≤ 9223372036854775807 := mrg hTb hx6 rfl
              have pwb : 0 ≤ S2 j ∧ 1 ≤ A5 4 zb (Int.toNat j) ∧ S2 j + A5 4 zb (Int.toNat j) ≤ T2 ∧ S2 (j + 1) = S2 j + A5 4 zb (Int.toNat j) := by rw [hS2, hS2]; exact lb5.part (j := j) (by omega) (by omega)
              have ewb : A5 4 zb (Int.toNat j) = x6 := (rmb 4 (Int.toNat j) (by decide)).symm.trans hx6
              rw [ewb] at pwb
              refine m_lald C e_q_choose_cut_157 rfl (by omega) (by decide) (by omega) (by show j < ((301 : Nat) : Int); omega) x6 hx6 ?_
              refine m_callV C Rm Y [vi x5, vl x6] [] (q_come l D B H0 ad _ hTb zo (S1 m1 + S2 j) x5 x6 (by show zo < 200; omega) hOb (by show 0 ≤ x5 ∧ x5 ≤ 9999999; omega) (by show 0 ≤ x6 ∧ 0 ≤ (S1 m1 + S2 j) ∧ (S1 m1 + S2 j) + x6 ≤ 1125899906842624; omega)) cl_Mo_289 rfl (by omega) rfl rfl e_q_choose_cut_158 rfl rfl rfl ⟨by show _ ≤ (201 + 6 * n : Nat); omega, by show _ ≤ (5530 + 150 * n : Nat); omega⟩ ?_
              rintro v7 A8 ⟨rfl, hT_n10, hE_n10, raw_hO_n10⟩
              have hF_n10 := hEb.trans (hE_n10.sub (cm_rm (by omega)))
              have hO_n10 : oG A8 zo ((S1 m1 + S2 j) + x6) := raw_hO_n10
              clear raw_hO_n10
              show JM g D ad w0 A8 161 [(8, vi j), (7, vr 1 zo), (5, vr 1 za), (6, vr 1 zb), (0, vr 0 0)] []
              have ms_n10 : mS A8 := hSbm.cmk hE_n10
              have ku_n10 : A8 0 0 33 = u + 5 := (hE_n10 0 0 33 rfl).trans hub
              refine m_blk 130 [(8, vi (j + 1)), (7, vr 1 zo), (5, vr 1 za), (6, vr 1 zb), (0, vr 0 0)] [] C f_q_choose_cut_161_2 rfl ?_
              refine m_loc [(8, vi (j + 1)), (7, vr 1 zo), (5, vr 1 za), (6, vr 1 zb), (0, vr 0 0)] ⟨rfl, rfl, rfl, rfl, rfl, trivial⟩ ?_
              exact ih130 A8 (j + 1) hT_n10 hF_n10 (hDb.trans (hE_n10.sub (cm_dm (by omega)))) (by rw [pwb.2.2.2, ← Int.add_assoc]; exact hO_n10) (by show 0 ≤ (j + 1) ∧ (j + 1) ≤ m2; omega) (by show A8 0 0 33 = u + 5; omega) ms_n10 (by show (400 - (j + 1)) < _; omega)
        refine m_loc [(8, vi 0), (7, vr 1 zo), (5, vr 1 za), (6, vr 1 zb), (0, vr 0 0)] ⟨rfl, rfl, rfl, rfl, rfl, trivial⟩ ?_
        exact hd_130 (Int.toNat ((400 - 0)) + 1) A2 0 hTa hEa hDa (hOa.le (by have e9 : j = m1 := (by omega); rw [z2, e9]; omega)) (by show 0 ≤ 0 ∧ 0 ≤ m2; omega) (by show A2 0 0 33 = u + 5; omega) hSam (by show (400 - 0) < _; omega)
      · refine m_blk 104 [(8, vi j), (7, vr 1 zo), (5, vr 1 za), (6, vr 1 zb), (0, vr 0 0)] [vr 1 za, vr 1 zo] C f_q_choose_cut_100_2 rfl ?_
        refine m_getrN C e_q_choose_cut_104 fg_Mo_279 rfl (by omega) rfl ?_
        refine m_blk 109 [(8, vi j), (7, vr 1 zo), (5, vr 1 za), (6, vr 1 zb), (0, vr 0 0)] [vi j, vr 3 za, vr 1 zo] C f_q_choose_cut_107_1 rfl ?_
        obtain ⟨x11, hx11⟩ : ∃ x, A2 3 za j.toNat = x := ⟨_, rfl⟩
        have rx11 : 0 ≤ x11 ∧ x11 ≤ 9999999 := mrg hTa hx11 rfl
        refine m_iald C e_q_choose_cut_109 rfl (by omega) (by decide) (by omega) (by show j < ((301 : Nat) : Int); omega) x11 hx11 ?_
        refine m_blk 112 [(8, vi j), (7, vr 1 zo), (5, vr 1 za), (6, vr 1 zb), (0, vr 0 0)] [vr 1 za, vi x11, vr 1 zo] C f_q_choose_cut_110_1 rfl ?_
        refine m_getrN C e_q_choose_cut_112 fg_Mo_285 rfl (by omega) rfl ?_
        refine m_blk 117 [(8, vi j), (7, vr 1 zo), (5, vr 1 za), (6, vr 1 zb), (0, vr 0 0)] [vi j, vr 4 za, vi x11, vr 1 zo] C f_q_choose_cut_115_1 rfl ?_
        obtain ⟨x12, hx12⟩ : ∃ x, A2 4 za j.toNat = x := ⟨_, rfl⟩
        have rx12 : (-9223372036854775808) ≤ x12 ∧ x12 ≤ 9223372036854775807 := mrg hTa hx12 rfl
        have pwa : 0 ≤ S1 j ∧ 1 ≤ A5 4 za (Int.toNat j) ∧ S1 j + A5 4 za (Int.toNat j) ≤ T1 ∧ S1 (j + 1) = S1 j + A5 4 za (Int.toNat j) := by rw [hS1, hS1]; exact la5.part (j := j) (by omega) (by omega)
        have ewa : A5 4 za (Int.toNat j) = x12 := (rma 4 (Int.toNat j) (by decide)).symm.trans hx12
        rw [ewa] at pwa
        refine m_lald C e_q_choose_cut_117 rfl (by omega) (by decide) (by omega) (by show j < ((301 : Nat) : Int); omega) x12 hx12 ?_
        refine m_callV C Rm Y [vi x11, vl x12] [] (q_come l D B H0 ad _ hTa zo (S1 j) x11 x12 (by show zo < 200; omega) hOa (by show 0 ≤ x11 ∧ x11 ≤ 9999999; omega) (by show 0 ≤ x12 ∧ 0 ≤ (S1 j) ∧ (S1 j) + x12 ≤ 1125899906842624; omega)) cl_Mo_289 rfl (by omega) rfl rfl e_q_choose_cut_118 rfl rfl rfl ⟨by show _ ≤ (201 + 6 * n : Nat); omega, by show _ ≤ (5530 + 150 * n : Nat); omega⟩ ?_
        rintro v13 A14 ⟨rfl, hT_n16, hE_n16, raw_hO_n16⟩
        have hF_n16 := hEa.trans (hE_n16.sub (cm_rm (by omega)))
        have hO_n16 : oG A14 zo ((S1 j) + x12) := raw_hO_n16
        clear raw_hO_n16
        show JM g D ad w0 A14 121 [(8, vi j), (7, vr 1 zo), (5, vr 1 za), (6, vr 1 zb), (0, vr 0 0)] []
        have ms_n16 : mS A14 := hSam.cmk hE_n16
        have ku_n16 : A14 0 0 33 = u + 5 := (hE_n16 0 0 33 rfl).trans hua
        refine m_blk 90 [(8, vi (j + 1)), (7, vr 1 zo), (5, vr 1 za), (6, vr 1 zb), (0, vr 0 0)] [] C f_q_choose_cut_121_2 rfl ?_
        refine m_loc [(8, vi (j + 1)), (7, vr 1 zo), (5, vr 1 za), (6, vr 1 zb), (0, vr 0 0)] ⟨rfl, rfl, rfl, rfl, rfl, trivial⟩ ?_
        exact ih90 A14 (j + 1) hT_n16 hF_n16 (hDa.trans (hE_n16.sub (cm_dm (by omega)))) (by rw [pwa.2.2.2]; exact hO_n16) (by show 0 ≤ (j + 1) ∧ (j + 1) ≤ m1; omega) (by show A14 0 0 33 = u + 5; omega) ms_n16 (by show (400 - (j + 1)) < _; omega)
  refine m_loc [(8, vi 0), (7, vr 1 zo), (5, vr 1 za), (6, vr 1 zb), (0, vr 0 0)] ⟨rfl, rfl, rfl, rfl, rfl, trivial⟩ ?_
  exact hd_90 (Int.toNat ((400 - 0)) + 1) A5 0 hT5 hE5 mEq.rfl' (by rw [z1]; exact oG.nil hm5) (by show 0 ≤ 0 ∧ 0 ≤ m1; omega) (by show A5 0 0 33 = u + 5; omega) hS5 (by show (400 - 0) < _; omega)
theorem f_q_choose_0_6 : mblkB b_Mo_choose [(0, .aload_n 0, vi 0), (1, .iload_n 1, vi 0), (2, .iload_n 2, vi 0), (3, .iconst 1, vi 1), (4, .iadd, vi 0), (5, .aload_n 0, vi 0)] = true := by decide +kernel
theorem e_q_choose_6 : decode b_Mo_choose 6 = .ok (.getfield 33, 3) := by decide +kernel
theorem f_q_choose_9_1 : mblkB b_Mo_choose [(9, .iload_n 1, vi 0)] = true := by decide +kernel
theorem e_q_choose_10 : decode b_Mo_choose 10 = .ok (.aaload, 1) := by decide +kernel
theorem f_q_choose_11_1 : mblkB b_Mo_choose [(11, .iload_n 2, vi 0)] = true := by decide +kernel
theorem e_q_choose_12 : decode b_Mo_choose 12 = .ok (.iaload, 1) := by decide +kernel
theorem f_q_choose_13_5 : mblkB b_Mo_choose [(13, .aload_n 0, vi 0), (14, .iload_n 1, vi 0), (15, .iload_n 2, vi 0), (16, .aload_n 3, vi 0), (17, .iconst 1, vi 1)] = true := by decide +kernel
theorem e_q_choose_18 : decode b_Mo_choose 18 = .ok (.invokevirtual 322, 3) := by decide +kernel
theorem f_q_choose_21_1 : mblkB b_Mo_choose [(21, .iload 4, vi 0)] = true := by decide +kernel
theorem e_q_choose_23 : decode b_Mo_choose 23 = .ok (.invokevirtual 336, 3) := by decide +kernel
theorem f_q_choose_26_2 : mblkB b_Mo_choose [(26, .astore 5, vi 0), (28, .aload_n 0, vi 0)] = true := by decide +kernel
theorem e_q_choose_29 : decode b_Mo_choose 29 = .ok (.getfield 297, 3) := by decide +kernel
theorem e_q_choose_32 : decode b_Mo_choose 32 = .ok (.ifCond .eq 6, 3) := by decide +kernel
theorem f_q_choose_38_3 : mblkB b_Mo_choose [(38, .aload_n 0, vi 0), (39, .iload_n 1, vi 0), (40, .aload_n 0, vi 0)] = true := by decide +kernel
theorem e_q_choose_41 : decode b_Mo_choose 41 = .ok (.getfield 33, 3) := by decide +kernel
theorem f_q_choose_44_1 : mblkB b_Mo_choose [(44, .iload_n 1, vi 0)] = true := by decide +kernel
theorem e_q_choose_45 : decode b_Mo_choose 45 = .ok (.aaload, 1) := by decide +kernel
theorem f_q_choose_46_1 : mblkB b_Mo_choose [(46, .iload_n 2, vi 0)] = true := by decide +kernel
theorem e_q_choose_47 : decode b_Mo_choose 47 = .ok (.iaload, 1) := by decide +kernel
theorem f_q_choose_48_1 : mblkB b_Mo_choose [(48, .aload_n 0, vi 0)] = true := by decide +kernel
theorem e_q_choose_49 : decode b_Mo_choose 49 = .ok (.getfield 30, 3) := by decide +kernel
theorem f_q_choose_52_1 : mblkB b_Mo_choose [(52, .iload_n 1, vi 0)] = true := by decide +kernel
theorem e_q_choose_53 : decode b_Mo_choose 53 = .ok (.aaload, 1) := by decide +kernel
theorem f_q_choose_54_1 : mblkB b_Mo_choose [(54, .iload_n 2, vi 0)] = true := by decide +kernel
theorem e_q_choose_55 : decode b_Mo_choose 55 = .ok (.iaload, 1) := by decide +kernel
theorem f_q_choose_56_5 : mblkB b_Mo_choose [(56, .aload_n 0, vi 0), (57, .iload_n 1, vi 0), (58, .iload_n 2, vi 0), (59, .aload_n 3, vi 0), (60, .iconst 0, vi 0)] = true := by decide +kernel
theorem e_q_choose_61 : decode b_Mo_choose 61 = .ok (.invokevirtual 322, 3) := by decide +kernel
theorem f_q_choose_64_1 : mblkB b_Mo_choose [(64, .iload 4, vi 0)] = true := by decide +kernel
theorem e_q_choose_66 : decode b_Mo_choose 66 = .ok (.invokevirtual 336, 3) := by decide +kernel
theorem f_q_choose_69_2 : mblkB b_Mo_choose [(69, .astore 6, vi 0), (71, .aload_n 0, vi 0)] = true := by decide +kernel
theorem e_q_choose_72 : decode b_Mo_choose 72 = .ok (.getfield 297, 3) := by decide +kernel
theorem e_q_choose_75 : decode b_Mo_choose 75 = .ok (.ifCond .eq 6, 3) := by decide +kernel
theorem f_q_choose_81_1 : mblkB b_Mo_choose [(81, .aload_n 0, vi 0)] = true := by decide +kernel
theorem e_q_choose_82 : decode b_Mo_choose 82 = .ok (.invokevirtual 275, 3) := by decide +kernel
theorem f_q_choose_85_3 : mblkB b_Mo_choose [(85, .astore 7, vi 0), (87, .iconst 0, vi 0), (88, .istore 8, vi 0)] = true := by decide +kernel
theorem f_q_choose_78_1 : mblkB b_Mo_choose [(78, .aload 6, vi 0)] = true := by decide +kernel
theorem e_q_choose_80 : decode b_Mo_choose 80 = .ok (.areturn, 1) := by decide +kernel
theorem f_q_choose_35_1 : mblkB b_Mo_choose [(35, .aload 5, vi 0)] = true := by decide +kernel
theorem e_q_choose_37 : decode b_Mo_choose 37 = .ok (.areturn, 1) := by decide +kernel
set_option maxHeartbeats 40000000 in
set_option maxRecDepth 100000 in
theorem q_choose (n : Nat) (hq9 : S_make n) : S_choose n := by
  intro l D B H0 ad A hT u T N M Ln dep p i ki w hp hK ha hi hu hk hO hT9 hw hS hkd
  refine m_met (by decide) rfl (fun g w0 C Rm Y E => ?_)
  have hE0 : mEq (rm u.toNat) A A := mEq.rfl'
  show JM g D ad w0 A 0 [(0, vr 0 0), (1, vi p), (2, vi i), (3, vr 1 ki), (4, vi w)] []
  have hr9 := hK.rng
  have hs9 := hK.at (i := i) (by omega) (by omega)
  have he9 := hs9.en
  have hp9 := hs9.dp
  have ts9 := tS_sum (P := p.toNat) (i := i.toNat) hO (show 0 ≤ A 1 ki 2 from (hT 1 ki 2).1)
  obtain ⟨T1, hT1⟩ : ∃ x, tsM A p.toNat i.toNat ki 1 = x := ⟨_, rfl⟩
  obtain ⟨T2, hT2⟩ : ∃ x, tsM A p.toNat i.toNat ki 0 = x := ⟨_, rfl⟩
  rw [hT1, hT2] at ts9
  refine m_blk 6 [(0, vr 0 0), (1, vi p), (2, vi i), (3, vr 1 ki), (4, vi w)] [vr 0 0, vi (i + 1), vi p, vr 0 0] C f_q_choose_0_6 rfl ?_
  refine m_getr C e_q_choose_6 fg_Mo_33 rfl (by decide) rfl ?_
  refine m_blk 10 [(0, vr 0 0), (1, vi p), (2, vi i), (3, vr 1 ki), (4, vi w)] [vi p, vr 18 0, vi (i + 1), vi p, vr 0 0] C f_q_choose_9_1 rfl ?_
  refine m_aald C p.toNat e_q_choose_10 rfl rfl rfl (by decide) (by decide) (by omega) (by show p < ((6 : Nat) : Int); omega) (mz _ _) ?_
  refine m_blk 12 [(0, vr 0 0), (1, vi p), (2, vi i), (3, vr 1 ki), (4, vi w)] [vi i, vr 38 p.toNat, vi (i + 1), vi p, vr 0 0] C f_q_choose_11_1 rfl ?_
  obtain ⟨x1, hx1⟩ : ∃ x, A 38 p.toNat i.toNat = x := ⟨_, rfl⟩
  have rx1 : 0 ≤ x1 ∧ x1 ≤ 16 := mrg hT hx1 rfl
  refine m_iald C e_q_choose_12 rfl (by omega) (by decide) (by omega) (by show i < ((16 : Nat) : Int); omega) x1 hx1 ?_
  refine m_blk 18 [(0, vr 0 0), (1, vi p), (2, vi i), (3, vr 1 ki), (4, vi w)] [vi 1, vr 1 ki, vi i, vi p, vr 0 0, vi x1, vi (i + 1), vi p, vr 0 0] C f_q_choose_13_5 rfl ?_
  refine m_callV C Rm Y [vi p, vi i, vr 1 ki, vi 1] [vi x1, vi (i + 1), vi p, vr 0 0] (q_splitX l D B H0 ad _ hT u T N M Ln dep p i ki 1 (by show 0 ≤ p ∧ p ≤ 5; omega) hK (by show 0 ≤ i ∧ i < N; omega) (by show A 0 0 33 = u ∧ 0 ≤ u ∧ u ≤ 199; omega) (by show (ki : Int) < u; omega) hO (by show 0 ≤ T ∧ T ≤ 1125899906842624; omega) (by show A 34 p.toNat i.toNat = 2 ∨ A 34 p.toNat i.toNat = 3; omega) (by show 1 = 0 ∨ 1 = 1; omega)) cl_Mo_322 rfl (by decide) rfl rfl e_q_choose_18 rfl rfl rfl ⟨by show _ ≤ (201 + 6 * n : Nat); omega, by show _ ≤ (5530 + 150 * n : Nat); omega⟩ ?_
  rintro v2 A3 ⟨z6, rfl, hT_n5, hE_n5, raw_hz_n5, raw_hu_n5, raw_hO_n5⟩
  have hF_n5 := hE0.trans (hE_n5.sub (dm_rm (by omega)))
  have hz_n5 : (z6 : Int) = u := raw_hz_n5
  clear raw_hz_n5
  have hu_n5 : A3 0 0 33 = u + 1 := raw_hu_n5
  clear raw_hu_n5
  have hO_n5 : oG A3 z6 (ws (sw1 A p.toNat (A 39 p.toNat i.toNat).toNat ki 1) 0 (A 1 ki 2).toNat) := raw_hO_n5
  clear raw_hO_n5
  show JM g D ad w0 A3 21 [(0, vr 0 0), (1, vi p), (2, vi i), (3, vr 1 ki), (4, vi w)] [vr 1 z6, vi x1, vi (i + 1), vi p, vr 0 0]
  have ms_n5 : mS A3 := hS.dmk hE_n5
  have lv7 : oG A3 ki T := hO.dmk hE_n5 (by omega)
  have o1_n5 : oG A3 z6 T1 := by rw [← hT1]; exact hO_n5
  have ku_n5 : A3 0 0 33 = u + 1 := hu_n5
  refine m_blk 23 [(0, vr 0 0), (1, vi p), (2, vi i), (3, vr 1 ki), (4, vi w)] [vi w, vr 1 z6, vi x1, vi (i + 1), vi p, vr 0 0] C f_q_choose_21_1 rfl ?_
  refine m_callV C Rm Y [vi p, vi (i + 1), vi x1, vr 1 z6, vi w] [] (hq9 l D B H0 ad _ hT_n5 (u + 1) T1 N M Ln dep (dep i.toNat + 1) p (i + 1) x1 z6 w (by show 0 ≤ p ∧ p ≤ 5; omega) (hK.rmk hF_n5) (ha.rmk hF_n5) (by show 0 ≤ (i + 1) ∧ (i + 1) ≤ 16 ∧ 0 ≤ x1 ∧ x1 ≤ N ∧ 20 * p + 17 - (i + 1) ≤ (n : Int); omega) (hs9.dQ (Or.inl hkd) (by omega) (by omega)) (by show A3 0 0 33 = (u + 1) ∧ 0 ≤ (u + 1) ∧ (u + 1) + (19 * p + 23 - 4 * (dep i.toNat + 1)) ≤ 200 ∧ 0 ≤ (dep i.toNat + 1) ∧ (dep i.toNat + 1) ≤ 5; omega) (by show (z6 : Int) < (u + 1); omega) o1_n5 (by show 0 ≤ T1 ∧ T1 ≤ 1125899906842624; omega) (by show -2147483648 ≤ w ∧ w ≤ 2147483647; omega) ms_n5) cl_Mo_336 rfl (by decide) rfl rfl e_q_choose_23 rfl rfl rfl ⟨by show _ ≤ (201 + 6 * n : Nat); omega, by show _ ≤ (5530 + 150 * n : Nat); omega⟩ ?_
  rintro v8 A9 ⟨z12, rfl, hT_n11, hE_n11, raw_hz_n11, raw_hu_n11, raw_hx_n11, raw_hO_n11, raw_hS_n11⟩
  have hF_n11 := hF_n5.trans (hE_n11.sub (rm_rm (by omega)))
  have hz_n11 : (z12 : Int) = (u + 1) := raw_hz_n11
  clear raw_hz_n11
  have hu_n11 : (u + 1) + 1 ≤ A9 0 0 33 ∧ A9 0 0 33 ≤ (u + 1) + 2 + 4 * (5 - (dep i.toNat + 1)) := raw_hu_n11
  clear raw_hu_n11
  have hx_n11 : xQ A9 ((u + 1) + 1) := raw_hx_n11
  clear raw_hx_n11
  have hO_n11 : oG A9 z12 T1 := raw_hO_n11
  clear raw_hO_n11
  have hS_n11 : mS A9 := raw_hS_n11
  clear raw_hS_n11
  show JM g D ad w0 A9 26 [(0, vr 0 0), (1, vi p), (2, vi i), (3, vr 1 ki), (4, vi w)] [vr 1 z12]
  have lv13 : oG A9 ki T := lv7.rmk hE_n11 (by omega)
  refine m_blk 29 [(5, vr 1 z12), (0, vr 0 0), (1, vi p), (2, vi i), (3, vr 1 ki), (4, vi w)] [vr 0 0] C f_q_choose_26_2 rfl ?_
  obtain ⟨x14, hx14⟩ : ∃ x, A9 0 0 34 = x := ⟨_, rfl⟩
  have rx14 : 0 ≤ x14 ∧ x14 ≤ 1 := mrg hT_n11 hx14 rfl
  refine m_geti C e_q_choose_29 fg_Mo_297 rfl (by decide) rfl x14 hx14 ?_
  refine m_if_eq (tgt := 38) C e_q_choose_32 (by decide) (by omega) (fun c15 => ?_) (fun c15 => ?_)
  · have ku1 : A9 0 0 33 = u + 1 + 1 := hx_n11 (by omega)
    have ku2 : A9 0 0 33 = u + 2 := by omega
    have e34 : A9 34 p.toNat i.toNat = A 34 p.toNat i.toNat := hF_n11 34 p.toNat i.toNat (rm_far (by decide) (by decide) _)
    have e37 : A9 37 p.toNat i.toNat = A 37 p.toNat i.toNat := hF_n11 37 p.toNat i.toNat (rm_far (by decide) (by decide) _)
    have e38 : A9 38 p.toNat i.toNat = A 38 p.toNat i.toNat := hF_n11 38 p.toNat i.toNat (rm_far (by decide) (by decide) _)
    try clear c15
    try clear raw_hS_n11
    try clear raw_hO_n11
    try clear raw_hx_n11
    try clear raw_hu_n11
    try clear raw_hz_n11
    try clear hE_n11
    try clear raw_hO_n5
    try clear raw_hu_n5
    try clear raw_hz_n5
    try clear hE_n5
    try clear hT_n5
    try clear z6
    try clear hx1
    try clear x1
    try clear hu_n11
    try clear o1_n5
    try clear lv7
    try clear ms_n5
    try clear hO_n5
    try clear hu_n5
    try clear hF_n5
    try clear rx1
    try clear hE0
    refine m_blk 41 [(5, vr 1 z12), (0, vr 0 0), (1, vi p), (2, vi i), (3, vr 1 ki), (4, vi w)] [vr 0 0, vi p, vr 0 0] C f_q_choose_38_3 rfl ?_
    refine m_getr C e_q_choose_41 fg_Mo_33 rfl (by decide) rfl ?_
    refine m_blk 45 [(5, vr 1 z12), (0, vr 0 0), (1, vi p), (2, vi i), (3, vr 1 ki), (4, vi w)] [vi p, vr 18 0, vi p, vr 0 0] C f_q_choose_44_1 rfl ?_
    refine m_aald C p.toNat e_q_choose_45 rfl rfl rfl (by decide) (by decide) (by omega) (by show p < ((6 : Nat) : Int); omega) (mz _ _) ?_
    refine m_blk 47 [(5, vr 1 z12), (0, vr 0 0), (1, vi p), (2, vi i), (3, vr 1 ki), (4, vi w)] [vi i, vr 38 p.toNat, vi p, vr 0 0] C f_q_choose_46_1 rfl ?_
    obtain ⟨x16, hx16⟩ : ∃ x, A9 38 p.toNat i.toNat = x := ⟨_, rfl⟩
    have rx16 : 0 ≤ x16 ∧ x16 ≤ 16 := mrg hT_n11 hx16 rfl
    refine m_iald C e_q_choose_47 rfl (by omega) (by decide) (by omega) (by show i < ((16 : Nat) : Int); omega) x16 hx16 ?_
    refine m_blk 49 [(5, vr 1 z12), (0, vr 0 0), (1, vi p), (2, vi i), (3, vr 1 ki), (4, vi w)] [vr 0 0, vi x16, vi p, vr 0 0] C f_q_choose_48_1 rfl ?_
    refine m_getr C e_q_choose_49 fg_Mo_30 rfl (by decide) rfl ?_
    refine m_blk 53 [(5, vr 1 z12), (0, vr 0 0), (1, vi p), (2, vi i), (3, vr 1 ki), (4, vi w)] [vi p, vr 17 0, vi x16, vi p, vr 0 0] C f_q_choose_52_1 rfl ?_
    refine m_aald C p.toNat e_q_choose_53 rfl rfl rfl (by decide) (by decide) (by omega) (by show p < ((6 : Nat) : Int); omega) (mz _ _) ?_
    refine m_blk 55 [(5, vr 1 z12), (0, vr 0 0), (1, vi p), (2, vi i), (3, vr 1 ki), (4, vi w)] [vi i, vr 37 p.toNat, vi x16, vi p, vr 0 0] C f_q_choose_54_1 rfl ?_
    obtain ⟨x17, hx17⟩ : ∃ x, A9 37 p.toNat i.toNat = x := ⟨_, rfl⟩
    have rx17 : 0 ≤ x17 ∧ x17 ≤ 16 := mrg hT_n11 hx17 rfl
    refine m_iald C e_q_choose_55 rfl (by omega) (by decide) (by omega) (by show i < ((16 : Nat) : Int); omega) x17 hx17 ?_
    refine m_blk 61 [(5, vr 1 z12), (0, vr 0 0), (1, vi p), (2, vi i), (3, vr 1 ki), (4, vi w)] [vi 0, vr 1 ki, vi i, vi p, vr 0 0, vi x17, vi x16, vi p, vr 0 0] C f_q_choose_56_5 rfl ?_
    refine m_callV C Rm Y [vi p, vi i, vr 1 ki, vi 0] [vi x17, vi x16, vi p, vr 0 0] (q_splitX l D B H0 ad _ hT_n11 (u + 2) T N M Ln dep p i ki 0 (by show 0 ≤ p ∧ p ≤ 5; omega) (hK.rmk hF_n11) (by show 0 ≤ i ∧ i < N; omega) (by show A9 0 0 33 = (u + 2) ∧ 0 ≤ (u + 2) ∧ (u + 2) ≤ 199; omega) (by show (ki : Int) < (u + 2); omega) lv13 (by show 0 ≤ T ∧ T ≤ 1125899906842624; omega) (by show A9 34 p.toNat i.toNat = 2 ∨ A9 34 p.toNat i.toNat = 3; omega) (by show 0 = 0 ∨ 0 = 1; omega)) cl_Mo_322 rfl (by decide) rfl rfl e_q_choose_61 rfl rfl rfl ⟨by show _ ≤ (201 + 6 * n : Nat); omega, by show _ ≤ (5530 + 150 * n : Nat); omega⟩ ?_
    rintro v18 A19 ⟨z22, rfl, hT_n21, hE_n21, raw_hz_n21, raw_hu_n21, raw_hO_n21⟩
    have hF_n21 := hF_n11.trans (hE_n21.sub (dm_rm (by omega)))
    have hz_n21 : (z22 : Int) = (u + 2) := raw_hz_n21
    clear raw_hz_n21
    have hu_n21 : A19 0 0 33 = (u + 2) + 1 := raw_hu_n21
    clear raw_hu_n21
    have hO_n21 : oG A19 z22 (ws (sw1 A9 p.toNat (A9 39 p.toNat i.toNat).toNat ki 0) 0 (A9 1 ki 2).toNat) := raw_hO_n21
    clear raw_hO_n21
    show JM g D ad w0 A19 64 [(5, vr 1 z12), (0, vr 0 0), (1, vi p), (2, vi i), (3, vr 1 ki), (4, vi w)] [vr 1 z22, vi x17, vi x16, vi p, vr 0 0]
    have ms_n21 : mS A19 := hS_n11.dmk hE_n21
    have lv23 : oG A19 ki T := lv13.dmk hE_n21 (by omega)
    have lv24 : oG A19 z12 T1 := hO_n11.dmk hE_n21 (by omega)
    have o2_n21 : oG A19 z22 T2 := by rw [← hT2, ← tS_rmk (A9 := A9) hF_n11 (show ki < u.toNat by omega)]; exact hO_n21
    have ku_n21 : A19 0 0 33 = u + 3 := (by have h9 := hu_n21; omega)
    refine m_blk 66 [(5, vr 1 z12), (0, vr 0 0), (1, vi p), (2, vi i), (3, vr 1 ki), (4, vi w)] [vi w, vr 1 z22, vi x17, vi x16, vi p, vr 0 0] C f_q_choose_64_1 rfl ?_
    refine m_callV C Rm Y [vi p, vi x16, vi x17, vr 1 z22, vi w] [] (hq9 l D B H0 ad _ hT_n21 (u + 3) T2 N M Ln dep (dep i.toNat + 1) p x16 x17 z22 w (by show 0 ≤ p ∧ p ≤ 5; omega) (hK.rmk hF_n21) (ha.rmk hF_n21) (by show 0 ≤ x16 ∧ x16 ≤ 16 ∧ 0 ≤ x17 ∧ x17 ≤ N ∧ 20 * p + 17 - x16 ≤ (n : Int); omega) (hs9.dQ (Or.inl hkd) (by omega) (by omega)) (by show A19 0 0 33 = (u + 3) ∧ 0 ≤ (u + 3) ∧ (u + 3) + (19 * p + 23 - 4 * (dep i.toNat + 1)) ≤ 200 ∧ 0 ≤ (dep i.toNat + 1) ∧ (dep i.toNat + 1) ≤ 5; omega) (by show (z22 : Int) < (u + 3); omega) o2_n21 (by show 0 ≤ T2 ∧ T2 ≤ 1125899906842624; omega) (by show -2147483648 ≤ w ∧ w ≤ 2147483647; omega) ms_n21) cl_Mo_336 rfl (by decide) rfl rfl e_q_choose_66 rfl rfl rfl ⟨by show _ ≤ (201 + 6 * n : Nat); omega, by show _ ≤ (5530 + 150 * n : Nat); omega⟩ ?_
    rintro v25 A26 ⟨z29, rfl, hT_n28, hE_n28, raw_hz_n28, raw_hu_n28, raw_hx_n28, raw_hO_n28, raw_hS_n28⟩
    have hF_n28 := hF_n21.trans (hE_n28.sub (rm_rm (by omega)))
    have hz_n28 : (z29 : Int) = (u + 3) := raw_hz_n28
    clear raw_hz_n28
    have hu_n28 : (u + 3) + 1 ≤ A26 0 0 33 ∧ A26 0 0 33 ≤ (u + 3) + 2 + 4 * (5 - (dep i.toNat + 1)) := raw_hu_n28
    clear raw_hu_n28
    have hx_n28 : xQ A26 ((u + 3) + 1) := raw_hx_n28
    clear raw_hx_n28
    have hO_n28 : oG A26 z29 T2 := raw_hO_n28
    clear raw_hO_n28
    have hS_n28 : mS A26 := raw_hS_n28
    clear raw_hS_n28
    show JM g D ad w0 A26 69 [(5, vr 1 z12), (0, vr 0 0), (1, vi p), (2, vi i), (3, vr 1 ki), (4, vi w)] [vr 1 z29]
    have lv30 : oG A26 ki T := lv23.rmk hE_n28 (by omega)
    have lv31 : oG A26 z12 T1 := lv24.rmk hE_n28 (by omega)
    refine m_blk 72 [(6, vr 1 z29), (5, vr 1 z12), (0, vr 0 0), (1, vi p), (2, vi i), (3, vr 1 ki), (4, vi w)] [vr 0 0] C f_q_choose_69_2 rfl ?_
    obtain ⟨x32, hx32⟩ : ∃ x, A26 0 0 34 = x := ⟨_, rfl⟩
    have rx32 : 0 ≤ x32 ∧ x32 ≤ 1 := mrg hT_n28 hx32 rfl
    refine m_geti C e_q_choose_72 fg_Mo_297 rfl (by decide) rfl x32 hx32 ?_
    refine m_if_eq (tgt := 81) C e_q_choose_75 (by decide) (by omega) (fun c33 => ?_) (fun c33 => ?_)
    · have ku3 : A26 0 0 33 = u + 3 + 1 := hx_n28 (by omega)
      have ku4 : A26 0 0 33 = u + 4 := by omega
      try clear c33
      try clear c15
      try clear raw_hS_n28
      try clear raw_hO_n28
      try clear raw_hx_n28
      try clear raw_hu_n28
      try clear raw_hz_n28
      try clear hE_n28
      try clear raw_hO_n21
      try clear raw_hu_n21
      try clear raw_hz_n21
      try clear hE_n21
      try clear hT_n21
      try clear z22
      try clear hx17
      try clear x17
      try clear hx16
      try clear x16
      try clear hx14
      try clear x14
      try clear raw_hS_n11
      try clear raw_hO_n11
      try clear raw_hx_n11
      try clear raw_hu_n11
      try clear raw_hz_n11
      try clear hE_n11
      try clear hT_n11
      try clear raw_hO_n5
      try clear raw_hu_n5
      try clear raw_hz_n5
      try clear hE_n5
      try clear hT_n5
      try clear z6
      try clear hx1
      try clear x1
      try clear lv30
      try clear hu_n28
      try clear h9
      try clear o2_n21
      try clear lv24
      try clear lv23
      try clear ms_n21
      try clear hO_n21
      try clear hu_n21
      try clear hF_n21
      try clear rx17
      try clear rx16
      try clear rx14
      try clear lv13
      try clear hS_n11
      try clear hO_n11
      try clear hx_n11
      try clear hu_n11
      try clear o1_n5
      try clear lv7
      try clear ms_n5
      try clear hO_n5
      try clear hu_n5
      try clear hF_n5
      try clear rx1
      try clear he9
      try clear hs9
      try clear hE0
      refine m_blk 82 [(6, vr 1 z29), (5, vr 1 z12), (0, vr 0 0), (1, vi p), (2, vi i), (3, vr 1 ki), (4, vi w)] [vr 0 0] C f_q_choose_81_1 rfl ?_
      refine m_callV C Rm Y [] [] (q_taken l D B H0 ad _ hT_n28 (u + 4) (by show A26 0 0 33 = (u + 4) ∧ 0 ≤ (u + 4) ∧ (u + 4) ≤ 199; omega)) cl_Mo_275 rfl (by decide) rfl rfl e_q_choose_82 rfl rfl rfl ⟨by show _ ≤ (201 + 6 * n : Nat); omega, by show _ ≤ (5530 + 150 * n : Nat); omega⟩ ?_
      rintro v34 A35 ⟨z38, rfl, hT_n37, hE_n37, raw_hz_n37, raw_hu_n37, raw_hm_n37⟩
      have hF_n37 := hF_n28.trans (hE_n37.sub (tk_rm (by omega)))
      have hz_n37 : (z38 : Int) = (u + 4) := raw_hz_n37
      clear raw_hz_n37
      have hu_n37 : A35 0 0 33 = (u + 4) + 1 := raw_hu_n37
      clear raw_hu_n37
      have hm_n37 : A35 1 z38 2 = 0 := raw_hm_n37
      clear raw_hm_n37
      show JM g D ad w0 A35 85 [(6, vr 1 z29), (5, vr 1 z12), (0, vr 0 0), (1, vi p), (2, vi i), (3, vr 1 ki), (4, vi w)] [vr 1 z38]
      have ms_n37 : mS A35 := hS_n28.tkk hE_n37
      have lv39 : oG A35 z12 T1 := lv31.tkk hE_n37 (by omega)
      have lv40 : oG A35 z29 T2 := hO_n28.tkk hE_n37 (by omega)
      have ku_n37 : A35 0 0 33 = u + 5 := (by have h9 := hu_n37; omega)
      refine m_blk 90 [(8, vi 0), (7, vr 1 z38), (6, vr 1 z29), (5, vr 1 z12), (0, vr 0 0), (1, vi p), (2, vi i), (3, vr 1 ki), (4, vi w)] [] C f_q_choose_85_3 rfl ?_
      refine m_loc [(8, vi 0), (7, vr 1 z38), (5, vr 1 z12), (6, vr 1 z29), (0, vr 0 0)] ⟨rfl, rfl, rfl, rfl, rfl, trivial⟩ ?_
      exact q_choose_cut n l D B H0 ad A A35 u T T1 T2 dep i z12 z29 z38 g w0 C Rm Y E hT_n37 hF_n37 lv39 lv40 hm_n37 ku_n37 ms_n37 (by omega) (by omega) (by omega) hp9
    · refine m_blk 80 [(6, vr 1 z29), (5, vr 1 z12), (0, vr 0 0), (1, vi p), (2, vi i), (3, vr 1 ki), (4, vi w)] [vr 1 z29] C f_q_choose_78_1 rfl ?_
      exact m_aret C Rm E e_q_choose_80 ⟨z29, rfl, hT_n28, hF_n28, (by show u ≤ (z29 : Int) ∧ (z29 : Int) < A26 0 0 33; omega), (by show u + 1 ≤ A26 0 0 33 ∧ A26 0 0 33 ≤ u + 1 + 4 * (5 - dep i.toNat); omega), (hO_n28.le (by omega)), hS_n28⟩
  · refine m_blk 37 [(5, vr 1 z12), (0, vr 0 0), (1, vi p), (2, vi i), (3, vr 1 ki), (4, vi w)] [vr 1 z12] C f_q_choose_35_1 rfl ?_
    exact m_aret C Rm E e_q_choose_37 ⟨z12, rfl, hT_n11, hF_n11, (by show u ≤ (z12 : Int) ∧ (z12 : Int) < A9 0 0 33; omega), (by show u + 1 ≤ A9 0 0 33 ∧ A9 0 0 33 ≤ u + 1 + 4 * (5 - dep i.toNat); omega), (hO_n11.le (by omega)), hS_n11⟩

theorem f_q_make_0_1 : mblkB b_Mo_make [(0, .aload_n 0, vi 0)] = true := by decide +kernel
theorem e_q_make_1 : decode b_Mo_make 1 = .ok (.invokevirtual 275, 3) := by decide +kernel
theorem f_q_make_4_3 : mblkB b_Mo_make [(4, .astore 6, vi 0), (6, .aload 6, vi 0), (8, .aload 4, vi 0)] = true := by decide +kernel
theorem e_q_make_10 : decode b_Mo_make 10 = .ok (.invokevirtual 293, 3) := by decide +kernel
theorem f_q_make_13_1 : mblkB b_Mo_make [(13, .aload_n 0, vi 0)] = true := by decide +kernel
theorem e_q_make_14 : decode b_Mo_make 14 = .ok (.getfield 269, 3) := by decide +kernel
theorem f_q_make_17_3 : mblkB b_Mo_make [(17, .istore 7, vi 0), (19, .iload_n 2, vi 0), (20, .istore 8, vi 0)] = true := by decide +kernel
theorem f_q_make_22_2 : mblkB b_Mo_make [(22, .iload 8, vi 0), (24, .iload_n 3, vi 0)] = true := by decide +kernel
theorem e_q_make_25 : decode b_Mo_make 25 = .ok (.if_icmp .ge 204, 3) := by decide +kernel
theorem f_q_make_229_1 : mblkB b_Mo_make [(229, .aload 6, vi 0)] = true := by decide +kernel
theorem e_q_make_231 : decode b_Mo_make 231 = .ok (.areturn, 1) := by decide +kernel
theorem f_q_make_28_1 : mblkB b_Mo_make [(28, .aload_n 0, vi 0)] = true := by decide +kernel
theorem e_q_make_29 : decode b_Mo_make 29 = .ok (.getfield 297, 3) := by decide +kernel
theorem e_q_make_32 : decode b_Mo_make 32 = .ok (.ifCond .ne 197, 3) := by decide +kernel
theorem f_q_make_35_2 : mblkB b_Mo_make [(35, .iload 5, vi 0), (37, .iconst (-1), vi (-1))] = true := by decide +kernel
theorem e_q_make_38 : decode b_Mo_make 38 = .ok (.if_icmp .ne 7, 3) := by decide +kernel
theorem f_q_make_45_3 : mblkB b_Mo_make [(45, .aload_n 0, vi 0), (46, .iload_n 1, vi 0), (47, .aload_n 0, vi 0)] = true := by decide +kernel
theorem e_q_make_48 : decode b_Mo_make 48 = .ok (.getfield 30, 3) := by decide +kernel
theorem f_q_make_51_1 : mblkB b_Mo_make [(51, .iload_n 1, vi 0)] = true := by decide +kernel
theorem e_q_make_52 : decode b_Mo_make 52 = .ok (.aaload, 1) := by decide +kernel
theorem f_q_make_53_1 : mblkB b_Mo_make [(53, .iload 8, vi 0)] = true := by decide +kernel
theorem e_q_make_55 : decode b_Mo_make 55 = .ok (.iaload, 1) := by decide +kernel
theorem f_q_make_56_2 : mblkB b_Mo_make [(56, .iload_n 3, vi 0), (57, .iload 5, vi 0)] = true := by decide +kernel
theorem e_q_make_59 : decode b_Mo_make 59 = .ok (.invokevirtual 300, 3) := by decide +kernel
theorem f_q_make_62_3 : mblkB b_Mo_make [(62, .istore 9, vi 0), (64, .iload 5, vi 0), (66, .iconst (-1), vi (-1))] = true := by decide +kernel
theorem e_q_make_67 : decode b_Mo_make 67 = .ok (.if_icmp .eq 53, 3) := by decide +kernel
theorem f_q_make_70_1 : mblkB b_Mo_make [(70, .aload_n 0, vi 0)] = true := by decide +kernel
theorem e_q_make_71 : decode b_Mo_make 71 = .ok (.getfield 21, 3) := by decide +kernel
theorem f_q_make_74_1 : mblkB b_Mo_make [(74, .iload_n 1, vi 0)] = true := by decide +kernel
theorem e_q_make_75 : decode b_Mo_make 75 = .ok (.aaload, 1) := by decide +kernel
theorem f_q_make_76_1 : mblkB b_Mo_make [(76, .iload 8, vi 0)] = true := by decide +kernel
theorem e_q_make_78 : decode b_Mo_make 78 = .ok (.iaload, 1) := by decide +kernel
theorem f_q_make_79_1 : mblkB b_Mo_make [(79, .iconst 5, vi 5)] = true := by decide +kernel
theorem e_q_make_80 : decode b_Mo_make 80 = .ok (.if_icmp .ne 40, 3) := by decide +kernel
theorem f_q_make_120_3 : mblkB b_Mo_make [(120, .iconst 0, vi 0), (121, .istore 10, vi 0), (123, .iload 10, vi 0)] = true := by decide +kernel
theorem e_q_make_125 : decode b_Mo_make 125 = .ok (.ifCond .ne 19, 3) := by decide +kernel
theorem f_q_make_128_6 : mblkB b_Mo_make [(128, .aload 6, vi 0), (130, .aload_n 0, vi 0), (131, .iload_n 1, vi 0), (132, .iload 8, vi 0), (134, .aload 6, vi 0), (136, .iload 9, vi 0)] = true := by decide +kernel
theorem e_q_make_138 : decode b_Mo_make 138 = .ok (.invokevirtual 306, 3) := by decide +kernel
theorem e_q_make_141 : decode b_Mo_make 141 = .ok (.invokevirtual 293, 3) := by decide +kernel
theorem f_q_make_144_1 : mblkB b_Mo_make [(144, .aload_n 0, vi 0)] = true := by decide +kernel
theorem e_q_make_145 : decode b_Mo_make 145 = .ok (.getfield 297, 3) := by decide +kernel
theorem e_q_make_148 : decode b_Mo_make 148 = .ok (.ifCond .eq 6, 3) := by decide +kernel
theorem f_q_make_154_2 : mblkB b_Mo_make [(154, .iload 5, vi 0), (156, .iconst (-1), vi (-1))] = true := by decide +kernel
theorem e_q_make_157 : decode b_Mo_make 157 = .ok (.if_icmp .eq 16, 3) := by decide +kernel
theorem f_q_make_160_4 : mblkB b_Mo_make [(160, .aload 6, vi 0), (162, .aload_n 0, vi 0), (163, .aload 6, vi 0), (165, .iload 9, vi 0)] = true := by decide +kernel
theorem e_q_make_167 : decode b_Mo_make 167 = .ok (.invokevirtual 310, 3) := by decide +kernel
theorem e_q_make_170 : decode b_Mo_make 170 = .ok (.invokevirtual 293, 3) := by decide +kernel
theorem f_q_make_173_2 : mblkB b_Mo_make [(173, .aload_n 0, vi 0), (174, .iload 7, vi 0)] = true := by decide +kernel
theorem e_q_make_176 : decode b_Mo_make 176 = .ok (.putfield 269, 3) := by decide +kernel
theorem f_q_make_179_2 : mblkB b_Mo_make [(179, .aload_n 0, vi 0), (180, .aload_n 0, vi 0)] = true := by decide +kernel
theorem e_q_make_181 : decode b_Mo_make 181 = .ok (.getfield 314, 3) := by decide +kernel
theorem f_q_make_184_1 : mblkB b_Mo_make [(184, .aload 6, vi 0)] = true := by decide +kernel
theorem e_q_make_186 : decode b_Mo_make 186 = .ok (.getfield 272, 3) := by decide +kernel
theorem e_q_make_189 : decode b_Mo_make 189 = .ok (.invokestatic 243, 3) := by decide +kernel
theorem e_q_make_192 : decode b_Mo_make 192 = .ok (.putfield 314, 3) := by decide +kernel
theorem f_q_make_195_2 : mblkB b_Mo_make [(195, .aload_n 0, vi 0), (196, .aload 6, vi 0)] = true := by decide +kernel
theorem e_q_make_198 : decode b_Mo_make 198 = .ok (.getfield 272, 3) := by decide +kernel
theorem f_q_make_201_1 : mblkB b_Mo_make [(201, .sipush 300, vi 300)] = true := by decide +kernel
theorem e_q_make_204 : decode b_Mo_make 204 = .ok (.if_icmp .le 7, 3) := by decide +kernel
theorem f_q_make_211_1 : mblkB b_Mo_make [(211, .iconst 0, vi 0)] = true := by decide +kernel
theorem e_q_make_212 : decode b_Mo_make 212 = .ok (.putfield 297, 3) := by decide +kernel
theorem f_q_make_215_1 : mblkB b_Mo_make [(215, .aload_n 0, vi 0)] = true := by decide +kernel
theorem e_q_make_216 : decode b_Mo_make 216 = .ok (.getfield 30, 3) := by decide +kernel
theorem f_q_make_219_1 : mblkB b_Mo_make [(219, .iload_n 1, vi 0)] = true := by decide +kernel
theorem e_q_make_220 : decode b_Mo_make 220 = .ok (.aaload, 1) := by decide +kernel
theorem f_q_make_221_1 : mblkB b_Mo_make [(221, .iload 8, vi 0)] = true := by decide +kernel
theorem e_q_make_223 : decode b_Mo_make 223 = .ok (.iaload, 1) := by decide +kernel
theorem f_q_make_224_2 : mblkB b_Mo_make [(224, .istore 8, vi 0), (226, .goto (-204), vi 22)] = true := by decide +kernel
theorem f_q_make_207_2 : mblkB b_Mo_make [(207, .iconst 1, vi 1), (208, .goto 4, vi 212)] = true := by decide +kernel
theorem f_q_make_151_1 : mblkB b_Mo_make [(151, .aload 6, vi 0)] = true := by decide +kernel
theorem e_q_make_153 : decode b_Mo_make 153 = .ok (.areturn, 1) := by decide +kernel
theorem f_q_make_83_2 : mblkB b_Mo_make [(83, .iload 9, vi 0), (85, .aload_n 0, vi 0)] = true := by decide +kernel
theorem e_q_make_86 : decode b_Mo_make 86 = .ok (.getfield 24, 3) := by decide +kernel
theorem f_q_make_89_1 : mblkB b_Mo_make [(89, .iload_n 1, vi 0)] = true := by decide +kernel
theorem e_q_make_90 : decode b_Mo_make 90 = .ok (.aaload, 1) := by decide +kernel
theorem f_q_make_91_1 : mblkB b_Mo_make [(91, .iload 8, vi 0)] = true := by decide +kernel
theorem e_q_make_93 : decode b_Mo_make 93 = .ok (.iaload, 1) := by decide +kernel
theorem f_q_make_94_3 : mblkB b_Mo_make [(94, .ishr, vi 0), (95, .iconst 1, vi 1), (96, .iand, vi 0)] = true := by decide +kernel
theorem e_q_make_97 : decode b_Mo_make 97 = .ok (.ifCond .ne 23, 3) := by decide +kernel
theorem f_q_make_100_2 : mblkB b_Mo_make [(100, .aload_n 0, vi 0), (101, .aload_n 0, vi 0)] = true := by decide +kernel
theorem e_q_make_102 : decode b_Mo_make 102 = .ok (.getfield 27, 3) := by decide +kernel
theorem f_q_make_105_1 : mblkB b_Mo_make [(105, .iload_n 1, vi 0)] = true := by decide +kernel
theorem e_q_make_106 : decode b_Mo_make 106 = .ok (.aaload, 1) := by decide +kernel
theorem f_q_make_107_1 : mblkB b_Mo_make [(107, .iload 8, vi 0)] = true := by decide +kernel
theorem e_q_make_109 : decode b_Mo_make 109 = .ok (.iaload, 1) := by decide +kernel
theorem e_q_make_110 : decode b_Mo_make 110 = .ok (.invokevirtual 303, 3) := by decide +kernel
theorem e_q_make_113 : decode b_Mo_make 113 = .ok (.ifCond .ne 7, 3) := by decide +kernel
theorem f_q_make_116_2 : mblkB b_Mo_make [(116, .iconst 1, vi 1), (117, .goto 4, vi 121)] = true := by decide +kernel
theorem f_q_make_121_2 : mblkB b_Mo_make [(121, .istore 10, vi 0), (123, .iload 10, vi 0)] = true := by decide +kernel
theorem f_q_make_41_2 : mblkB b_Mo_make [(41, .iconst (-1), vi (-1)), (42, .goto 20, vi 62)] = true := by decide +kernel
set_option maxHeartbeats 40000000 in
set_option maxRecDepth 100000 in
theorem q_make (n : Nat) (hrec : ∀ n1 : Nat, n = n1 + 1 → S_makeStep n1) : S_make n := by
  intro l D B H0 ad A hT u T N M Ln dep d p a b ki w hp hK ha hab hd hu hk hO hT9 hw hS
  refine m_met (by decide) rfl (fun g w0 C Rm Y E => ?_)
  have hE0 : mEq (rm u.toNat) A A := mEq.rfl'
  show JM g D ad w0 A 0 [(0, vr 0 0), (1, vi p), (2, vi a), (3, vi b), (4, vr 1 ki), (5, vi w)] []
  obtain ⟨n1, hn1⟩ : ∃ n1, n = n1 + 1 := ⟨n - 1, by omega⟩
  have hr9 := hK.rng
  refine m_blk 1 [(0, vr 0 0), (1, vi p), (2, vi a), (3, vi b), (4, vr 1 ki), (5, vi w)] [vr 0 0] C f_q_make_0_1 rfl ?_
  refine m_callV C Rm Y [] [] (q_taken l D B H0 ad _ hT u (by show A 0 0 33 = u ∧ 0 ≤ u ∧ u ≤ 199; omega)) cl_Mo_275 rfl (by decide) rfl rfl e_q_make_1 rfl rfl rfl ⟨by show _ ≤ (200 + 6 * n : Nat); omega, by show _ ≤ (5500 + 150 * n : Nat); omega⟩ ?_
  rintro v1 A2 ⟨z5, rfl, hT_n4, hE_n4, raw_hz_n4, raw_hu_n4, raw_hm_n4⟩
  have hF_n4 := hE0.trans (hE_n4.sub (tk_rm (by omega)))
  have hz_n4 : (z5 : Int) = u := raw_hz_n4
  clear raw_hz_n4
  have hu_n4 : A2 0 0 33 = u + 1 := raw_hu_n4
  clear raw_hu_n4
  have hm_n4 : A2 1 z5 2 = 0 := raw_hm_n4
  clear raw_hm_n4
  show JM g D ad w0 A2 4 [(0, vr 0 0), (1, vi p), (2, vi a), (3, vi b), (4, vr 1 ki), (5, vi w)] [vr 1 z5]
  have ms_n4 : mS A2 := hS.tkk hE_n4
  have lv6 : oG A2 ki T := hO.tkk hE_n4 (by omega)
  have ku_n4 : A2 0 0 33 = u + 1 := hu_n4
  refine m_blk 10 [(6, vr 1 z5), (0, vr 0 0), (1, vi p), (2, vi a), (3, vi b), (4, vr 1 ki), (5, vi w)] [vr 1 ki, vr 1 z5] C f_q_make_4_3 rfl ?_
  refine m_callV C Rm Y [vr 1 ki] [] (q_becomes l D B H0 ad _ hT_n4 z5 T ki (by show z5 < 200 ∧ ki < 200; omega) lv6) cl_Mo_293 rfl (by omega) rfl rfl e_q_make_10 rfl rfl rfl ⟨by show _ ≤ (200 + 6 * n : Nat); omega, by show _ ≤ (5500 + 150 * n : Nat); omega⟩ ?_
  rintro v7 A8 ⟨rfl, hT_n10, hE_n10, raw_hO_n10⟩
  have hF_n10 := hF_n4.trans (hE_n10.sub (cm_rm (by omega)))
  have hO_n10 : oG A8 z5 T := raw_hO_n10
  clear raw_hO_n10
  show JM g D ad w0 A8 13 [(6, vr 1 z5), (0, vr 0 0), (1, vi p), (2, vi a), (3, vi b), (4, vr 1 ki), (5, vi w)] []
  have ms_n10 : mS A8 := ms_n4.cmk hE_n10
  have ku_n10 : A8 0 0 33 = u + 1 := (hE_n10 0 0 33 rfl).trans ku_n4
  refine m_blk 14 [(6, vr 1 z5), (0, vr 0 0), (1, vi p), (2, vi a), (3, vi b), (4, vr 1 ki), (5, vi w)] [vr 0 0] C f_q_make_13_1 rfl ?_
  refine m_geti C e_q_make_14 fg_Mo_269 rfl (by decide) rfl (u + 1) ku_n10 ?_
  refine m_blk 22 [(8, vi a), (7, vi (u + 1)), (6, vr 1 z5), (0, vr 0 0), (1, vi p), (2, vi a), (3, vi b), (4, vr 1 ki), (5, vi w)] [] C f_q_make_17_3 rfl ?_
  have hd_22 : ∀ (NZ : Nat) (A2 : mA) (i : Int), mTy A2 → mEq (rm u.toNat) A A2 → oG A2 z5 T → a ≤ i ∧ i ≤ 16 → A2 0 0 33 = u + 1 → mS A2 → (40 - i) < (NZ : Int) → JM g D ad w0 A2 22 [(8, vi i), (7, vi (u + 1)), (6, vr 1 z5), (0, vr 0 0), (1, vi p), (3, vi b), (5, vi w)] [] := by
    intro NZ
    induction NZ with
    | zero => intro A2 i hT2 hE2 hO2 hi2 hu2 hS2 hm22; exact absurd hm22 (by omega)
    | succ NZ ih22 =>
      intro A2 i hT2 hE2 hO2 hi2 hu2 hS2 hm22
      refine m_blk 25 [(8, vi i), (7, vi (u + 1)), (6, vr 1 z5), (0, vr 0 0), (1, vi p), (3, vi b), (5, vi w)] [vi b, vi i] C f_q_make_22_2 rfl ?_
      refine m_icmp_ge (tgt := 229) C e_q_make_25 (by decide) (by omega) (by omega) (fun c11 => ?_) (fun c11 => ?_)
      · refine m_blk 231 [(8, vi i), (7, vi (u + 1)), (6, vr 1 z5), (0, vr 0 0), (1, vi p), (3, vi b), (5, vi w)] [vr 1 z5] C f_q_make_229_1 rfl ?_
        exact m_aret C Rm E e_q_make_231 ⟨z5, rfl, hT2, hE2, (by show (z5 : Int) = u; omega), (by show u + 1 ≤ A2 0 0 33 ∧ A2 0 0 33 ≤ u + 2 + 4 * (5 - d); omega), (fun _ => by show A2 0 0 33 = u + 1; omega), hO2, hS2⟩
      · refine m_blk 29 [(8, vi i), (7, vi (u + 1)), (6, vr 1 z5), (0, vr 0 0), (1, vi p), (3, vi b), (5, vi w)] [vr 0 0] C f_q_make_28_1 rfl ?_
        obtain ⟨x12, hx12⟩ : ∃ x, A2 0 0 34 = x := ⟨_, rfl⟩
        have rx12 : 0 ≤ x12 ∧ x12 ≤ 1 := mrg hT2 hx12 rfl
        refine m_geti C e_q_make_29 fg_Mo_297 rfl (by decide) rfl x12 hx12 ?_
        refine m_if_ne (tgt := 229) C e_q_make_32 (by decide) (by omega) (fun c13 => ?_) (fun c13 => ?_)
        · refine m_blk 231 [(8, vi i), (7, vi (u + 1)), (6, vr 1 z5), (0, vr 0 0), (1, vi p), (3, vi b), (5, vi w)] [vr 1 z5] C f_q_make_229_1 rfl ?_
          exact m_aret C Rm E e_q_make_231 ⟨z5, rfl, hT2, hE2, (by show (z5 : Int) = u; omega), (by show u + 1 ≤ A2 0 0 33 ∧ A2 0 0 33 ≤ u + 2 + 4 * (5 - d); omega), (fun _ => by show A2 0 0 33 = u + 1; omega), hO2, hS2⟩
        · have K2 := hK.rmk hE2
          have hs9 := K2.at (i := i) (by omega) (by omega)
          have he9 := hs9.en
          have hk9 := hs9.kd
          have hd9 := hd.at (i := i) (by omega) (by omega) (by omega)
          have hp9 := hs9.dp
          refine m_blk 38 [(8, vi i), (7, vi (u + 1)), (6, vr 1 z5), (0, vr 0 0), (1, vi p), (3, vi b), (5, vi w)] [vi (-1), vi w] C f_q_make_35_2 rfl ?_
          refine m_icmp_ne (tgt := 45) C e_q_make_38 (by decide) (by omega) (by decide) (fun c14 => ?_) (fun c14 => ?_)
          · refine m_blk 48 [(8, vi i), (7, vi (u + 1)), (6, vr 1 z5), (0, vr 0 0), (1, vi p), (3, vi b), (5, vi w)] [vr 0 0, vi p, vr 0 0] C f_q_make_45_3 rfl ?_
            refine m_getr C e_q_make_48 fg_Mo_30 rfl (by decide) rfl ?_
            refine m_blk 52 [(8, vi i), (7, vi (u + 1)), (6, vr 1 z5), (0, vr 0 0), (1, vi p), (3, vi b), (5, vi w)] [vi p, vr 17 0, vi p, vr 0 0] C f_q_make_51_1 rfl ?_
            refine m_aald C p.toNat e_q_make_52 rfl rfl rfl (by decide) (by decide) (by omega) (by show p < ((6 : Nat) : Int); omega) (mz _ _) ?_
            refine m_blk 55 [(8, vi i), (7, vi (u + 1)), (6, vr 1 z5), (0, vr 0 0), (1, vi p), (3, vi b), (5, vi w)] [vi i, vr 37 p.toNat, vi p, vr 0 0] C f_q_make_53_1 rfl ?_
            obtain ⟨x15, hx15⟩ : ∃ x, A2 37 p.toNat i.toNat = x := ⟨_, rfl⟩
            have rx15 : 0 ≤ x15 ∧ x15 ≤ 16 := mrg hT2 hx15 rfl
            refine m_iald C e_q_make_55 rfl (by omega) (by decide) (by omega) (by show i < ((16 : Nat) : Int); omega) x15 hx15 ?_
            refine m_blk 59 [(8, vi i), (7, vi (u + 1)), (6, vr 1 z5), (0, vr 0 0), (1, vi p), (3, vi b), (5, vi w)] [vi w, vi b, vi x15, vi p, vr 0 0] C f_q_make_56_2 rfl ?_
            refine m_callV C Rm Y [vi p, vi x15, vi b, vi w] [] ((q_needed_ 17).1 l D B H0 ad _ hT2 N M Ln dep p x15 b w (by show 0 ≤ p ∧ p ≤ 5; omega) (hK.rmk hE2) (ha.rmk hE2) (by show 0 ≤ x15 ∧ x15 ≤ 16 ∧ 0 ≤ b ∧ b ≤ N ∧ 17 - x15 ≤ ((17 : Nat) : Int); omega) (by show -2147483648 ≤ w ∧ w ≤ 2147483647; omega)) cl_Mo_300 rfl (by decide) rfl rfl e_q_make_59 rfl rfl rfl ⟨by show _ ≤ (200 + 6 * n : Nat); omega, by show _ ≤ (5500 + 150 * n : Nat); omega⟩ ?_
            rintro v16 A17 ⟨z20, rfl, rfl, raw_hz_n19⟩
            have hz_n19 : -2147483648 ≤ z20 ∧ z20 ≤ 2147483647 := raw_hz_n19
            clear raw_hz_n19
            show JM g D ad w0 A2 62 [(8, vi i), (7, vi (u + 1)), (6, vr 1 z5), (0, vr 0 0), (1, vi p), (3, vi b), (5, vi w)] [vi z20]
            refine m_blk 67 [(9, vi z20), (8, vi i), (7, vi (u + 1)), (6, vr 1 z5), (0, vr 0 0), (1, vi p), (3, vi b), (5, vi w)] [vi (-1), vi w] C f_q_make_62_3 rfl ?_
            refine m_icmp_eq (tgt := 120) C e_q_make_67 (by decide) (by omega) (by decide) (fun c21 => (by omega : False).elim) (fun c21 => ?_)
            refine m_blk 71 [(9, vi z20), (8, vi i), (7, vi (u + 1)), (6, vr 1 z5), (0, vr 0 0), (1, vi p), (3, vi b), (5, vi w)] [vr 0 0] C f_q_make_70_1 rfl ?_
            refine m_getr C e_q_make_71 fg_Mo_21 rfl (by decide) rfl ?_
            refine m_blk 75 [(9, vi z20), (8, vi i), (7, vi (u + 1)), (6, vr 1 z5), (0, vr 0 0), (1, vi p), (3, vi b), (5, vi w)] [vi p, vr 14 0] C f_q_make_74_1 rfl ?_
            refine m_aald C p.toNat e_q_make_75 rfl rfl rfl (by decide) (by decide) (by omega) (by show p < ((6 : Nat) : Int); omega) (mz _ _) ?_
            refine m_blk 78 [(9, vi z20), (8, vi i), (7, vi (u + 1)), (6, vr 1 z5), (0, vr 0 0), (1, vi p), (3, vi b), (5, vi w)] [vi i, vr 34 p.toNat] C f_q_make_76_1 rfl ?_
            obtain ⟨x22, hx22⟩ : ∃ x, A2 34 p.toNat i.toNat = x := ⟨_, rfl⟩
            have rx22 : (-1) ≤ x22 ∧ x22 ≤ 255 := mrg hT2 hx22 rfl
            refine m_iald C e_q_make_78 rfl (by omega) (by decide) (by omega) (by show i < ((16 : Nat) : Int); omega) x22 hx22 ?_
            refine m_blk 80 [(9, vi z20), (8, vi i), (7, vi (u + 1)), (6, vr 1 z5), (0, vr 0 0), (1, vi p), (3, vi b), (5, vi w)] [vi 5, vi x22] C f_q_make_79_1 rfl ?_
            refine m_icmp_ne (tgt := 120) C e_q_make_80 (by decide) (by omega) (by decide) (fun c23 => ?_) (fun c23 => ?_)
            · refine m_blk 125 [(10, vi 0), (9, vi z20), (8, vi i), (7, vi (u + 1)), (6, vr 1 z5), (0, vr 0 0), (1, vi p), (3, vi b), (5, vi w)] [vi 0] C f_q_make_120_3 rfl ?_
              refine m_if_ne (tgt := 144) C e_q_make_125 (by decide) (by decide) (fun c24 => (by omega : False).elim) (fun c24 => ?_)
              refine m_blk 138 [(10, vi 0), (9, vi z20), (8, vi i), (7, vi (u + 1)), (6, vr 1 z5), (0, vr 0 0), (1, vi p), (3, vi b), (5, vi w)] [vi z20, vr 1 z5, vi i, vi p, vr 0 0, vr 1 z5] C f_q_make_128_6 rfl ?_
              refine m_callV C Rm Y [vi p, vi i, vr 1 z5, vi z20] [vr 1 z5] ((hrec n1 hn1) l D B H0 ad _ hT2 (u + 1) T N M Ln dep p i z5 z20 (by show 0 ≤ p ∧ p ≤ 5; omega) (hK.rmk hE2) (ha.rmk hE2) (by show 0 ≤ i ∧ i < N ∧ 20 * p + 16 - i ≤ (n1 : Int); omega) (by show A2 0 0 33 = (u + 1) ∧ 0 ≤ (u + 1) ∧ (u + 1) + (19 * p + 22 - 4 * dep i.toNat) ≤ 200; omega) (by show (z5 : Int) < (u + 1); omega) hO2 (by show 0 ≤ T ∧ T ≤ 1125899906842624; omega) (by show -2147483648 ≤ z20 ∧ z20 ≤ 2147483647; omega) hS2) cl_Mo_306 rfl (by decide) rfl rfl e_q_make_138 rfl rfl rfl ⟨by show _ ≤ (200 + 6 * n : Nat); omega, by show _ ≤ (5500 + 150 * n : Nat); omega⟩ ?_
              rintro v25 A26 ⟨z29, rfl, hT_n28, hE_n28, raw_hz_n28, raw_hu_n28, raw_hO_n28, raw_hS_n28⟩
              have hF_n28 := hE2.trans (hE_n28.sub (rm_rm (by omega)))
              have hz_n28 : (u + 1) ≤ (z29 : Int) ∧ (z29 : Int) < A26 0 0 33 := raw_hz_n28
              clear raw_hz_n28
              have hu_n28 : (u + 1) + 1 ≤ A26 0 0 33 ∧ A26 0 0 33 ≤ (u + 1) + 1 + 4 * (5 - dep i.toNat) := raw_hu_n28
              clear raw_hu_n28
              have hO_n28 : oG A26 z29 T := raw_hO_n28
              clear raw_hO_n28
              have hS_n28 : mS A26 := raw_hS_n28
              clear raw_hS_n28
              show JM g D ad w0 A26 141 [(10, vi 0), (9, vi z20), (8, vi i), (7, vi (u + 1)), (6, vr 1 z5), (0, vr 0 0), (1, vi p), (3, vi b), (5, vi w)] [vr 1 z29, vr 1 z5]
              refine m_callV C Rm Y [vr 1 z29] [] (q_becomes l D B H0 ad _ hT_n28 z5 T z29 (by show z5 < 200 ∧ z29 < 200; omega) hO_n28) cl_Mo_293 rfl (by omega) rfl rfl e_q_make_141 rfl rfl rfl ⟨by show _ ≤ (200 + 6 * n : Nat); omega, by show _ ≤ (5500 + 150 * n : Nat); omega⟩ ?_
              rintro v30 A31 ⟨rfl, hT_n33, hE_n33, raw_hO_n33⟩
              have hF_n33 := hF_n28.trans (hE_n33.sub (cm_rm (by omega)))
              have hO_n33 : oG A31 z5 T := raw_hO_n33
              clear raw_hO_n33
              show JM g D ad w0 A31 144 [(10, vi 0), (9, vi z20), (8, vi i), (7, vi (u + 1)), (6, vr 1 z5), (0, vr 0 0), (1, vi p), (3, vi b), (5, vi w)] []
              have ms_n33 : mS A31 := hS_n28.cmk hE_n33
              have ku_n33 : A31 0 0 33 = A26 0 0 33 := hE_n33 0 0 33 rfl
              refine m_blk 145 [(10, vi 0), (9, vi z20), (8, vi i), (7, vi (u + 1)), (6, vr 1 z5), (0, vr 0 0), (1, vi p), (3, vi b), (5, vi w)] [vr 0 0] C f_q_make_144_1 rfl ?_
              obtain ⟨x34, hx34⟩ : ∃ x, A31 0 0 34 = x := ⟨_, rfl⟩
              have rx34 : 0 ≤ x34 ∧ x34 ≤ 1 := mrg hT_n33 hx34 rfl
              refine m_geti C e_q_make_145 fg_Mo_297 rfl (by decide) rfl x34 hx34 ?_
              refine m_if_eq (tgt := 154) C e_q_make_148 (by decide) (by omega) (fun c35 => ?_) (fun c35 => ?_)
              · refine m_blk 157 [(10, vi 0), (9, vi z20), (8, vi i), (7, vi (u + 1)), (6, vr 1 z5), (0, vr 0 0), (1, vi p), (3, vi b), (5, vi w)] [vi (-1), vi w] C f_q_make_154_2 rfl ?_
                refine m_icmp_eq (tgt := 173) C e_q_make_157 (by decide) (by omega) (by decide) (fun c36 => (by omega : False).elim) (fun c36 => ?_)
                obtain ⟨uf37, huf37⟩ : ∃ x, A31 0 0 33 = x := ⟨_, rfl⟩
                refine m_blk 167 [(10, vi 0), (9, vi z20), (8, vi i), (7, vi (u + 1)), (6, vr 1 z5), (0, vr 0 0), (1, vi p), (3, vi b), (5, vi w)] [vi z20, vr 1 z5, vr 0 0, vr 1 z5] C f_q_make_160_4 rfl ?_
                refine m_callV C Rm Y [vr 1 z5, vi z20] [vr 1 z5] (q_forget l D B H0 ad _ hT_n33 uf37 T z5 z20 (by show A31 0 0 33 = uf37 ∧ 0 ≤ uf37 ∧ uf37 ≤ 199; omega) (by show (z5 : Int) < uf37; omega) hO_n33 (by show 0 ≤ T ∧ T ≤ 1125899906842624; omega) (by show -2147483648 ≤ z20 ∧ z20 ≤ 2147483647; omega)) cl_Mo_310 rfl (by decide) rfl rfl e_q_make_167 rfl rfl rfl ⟨by show _ ≤ (200 + 6 * n : Nat); omega, by show _ ≤ (5500 + 150 * n : Nat); omega⟩ ?_
                rintro v38 A39 ⟨z42, rfl, hT_n41, hE_n41, raw_hz_n41, raw_hu_n41, raw_hO_n41⟩
                have hF_n41 := hF_n33.trans (hE_n41.sub (dm_rm (by omega)))
                have hz_n41 : (z42 : Int) = uf37 := raw_hz_n41
                clear raw_hz_n41
                have hu_n41 : A39 0 0 33 = uf37 + 1 := raw_hu_n41
                clear raw_hu_n41
                have hO_n41 : oG A39 z42 T := raw_hO_n41
                clear raw_hO_n41
                show JM g D ad w0 A39 170 [(10, vi 0), (9, vi z20), (8, vi i), (7, vi (u + 1)), (6, vr 1 z5), (0, vr 0 0), (1, vi p), (3, vi b), (5, vi w)] [vr 1 z42, vr 1 z5]
                have ms_n41 : mS A39 := ms_n33.dmk hE_n41
                refine m_callV C Rm Y [vr 1 z42] [] (q_becomes l D B H0 ad _ hT_n41 z5 T z42 (by show z5 < 200 ∧ z42 < 200; omega) hO_n41) cl_Mo_293 rfl (by omega) rfl rfl e_q_make_170 rfl rfl rfl ⟨by show _ ≤ (200 + 6 * n : Nat); omega, by show _ ≤ (5500 + 150 * n : Nat); omega⟩ ?_
                rintro v43 A44 ⟨rfl, hT_n46, hE_n46, raw_hO_n46⟩
                have hF_n46 := hF_n41.trans (hE_n46.sub (cm_rm (by omega)))
                have hO_n46 : oG A44 z5 T := raw_hO_n46
                clear raw_hO_n46
                show JM g D ad w0 A44 173 [(10, vi 0), (9, vi z20), (8, vi i), (7, vi (u + 1)), (6, vr 1 z5), (0, vr 0 0), (1, vi p), (3, vi b), (5, vi w)] []
                have ms_n46 : mS A44 := ms_n41.cmk hE_n46
                refine m_blk 176 [(10, vi 0), (9, vi z20), (8, vi i), (7, vi (u + 1)), (6, vr 1 z5), (0, vr 0 0), (1, vi p), (3, vi b), (5, vi w)] [vi (u + 1), vr 0 0] C f_q_make_173_2 rfl ?_
                refine m_puti C e_q_make_176 fp_Mo_269 rfl (by decide) rfl ?_
                have t47 : mTy (mu A44 0 0 33 (u + 1)) := hT_n46.mu (by show 0 ≤ (u + 1) ∧ (u + 1) ≤ 200; omega)
                have q48 := hF_n46.mu (f := 0) (k := 0) (j := 33) (z := (u + 1)) (by simp [rm])
                refine m_blk 181 [(10, vi 0), (9, vi z20), (8, vi i), (7, vi (u + 1)), (6, vr 1 z5), (0, vr 0 0), (1, vi p), (3, vi b), (5, vi w)] [vr 0 0, vr 0 0] C f_q_make_179_2 rfl ?_
                obtain ⟨x49, hx49⟩ : ∃ x, A44 0 0 35 = x := ⟨_, rfl⟩
                have rx49 : (-2147483648) ≤ x49 ∧ x49 ≤ 2147483647 := mrg hT_n46 hx49 rfl
                refine m_geti C e_q_make_181 fg_Mo_314 rfl (by decide) rfl x49 hx49 ?_
                refine m_blk 186 [(10, vi 0), (9, vi z20), (8, vi i), (7, vi (u + 1)), (6, vr 1 z5), (0, vr 0 0), (1, vi p), (3, vi b), (5, vi w)] [vr 1 z5, vi x49, vr 0 0] C f_q_make_184_1 rfl ?_
                obtain ⟨x50, hx50⟩ : ∃ x, A44 1 z5 2 = x := ⟨_, rfl⟩
                have rx50 : 0 ≤ x50 ∧ x50 ≤ 301 := mrg hT_n46 hx50 rfl
                refine m_getiN C e_q_make_186 fg_Mo_272 rfl (by omega) rfl x50 hx50 ?_
                refine m_mmax C Rm cl_Mo_243 e_q_make_189 (by show 1 ≤ (200 + 6 * n : Nat); omega) (by show 1 + 13 ≤ (5500 + 150 * n : Nat); omega) (by omega) (by omega) (fun z51 hz51 => ?_)
                refine m_puti C e_q_make_192 fp_Mo_314 rfl (by decide) rfl ?_
                have t52 : mTy (mu (mu A44 0 0 33 (u + 1)) 0 0 35 z51) := t47.mu (by show (-2147483648) ≤ z51 ∧ z51 ≤ 2147483647; omega)
                have q53 := q48.mu (f := 0) (k := 0) (j := 35) (z := z51) (by simp [rm])
                refine m_blk 198 [(10, vi 0), (9, vi z20), (8, vi i), (7, vi (u + 1)), (6, vr 1 z5), (0, vr 0 0), (1, vi p), (3, vi b), (5, vi w)] [vr 1 z5, vr 0 0] C f_q_make_195_2 rfl ?_
                refine m_getiN C e_q_make_198 fg_Mo_272 rfl (by omega) rfl x50 hx50 ?_
                refine m_blk 204 [(10, vi 0), (9, vi z20), (8, vi i), (7, vi (u + 1)), (6, vr 1 z5), (0, vr 0 0), (1, vi p), (3, vi b), (5, vi w)] [vi 300, vi x50, vr 0 0] C f_q_make_201_1 rfl ?_
                refine m_icmp_le (tgt := 211) C e_q_make_204 (by decide) (by omega) (by decide) (fun c54 => ?_) (fun c54 => ?_)
                · refine m_blk 212 [(10, vi 0), (9, vi z20), (8, vi i), (7, vi (u + 1)), (6, vr 1 z5), (0, vr 0 0), (1, vi p), (3, vi b), (5, vi w)] [vi 0, vr 0 0] C f_q_make_211_1 rfl ?_
                  refine m_putz C e_q_make_212 fp_Mo_297 rfl (by decide) rfl (Or.inl rfl) ?_
                  have t55 : mTy (mu (mu (mu A44 0 0 33 (u + 1)) 0 0 35 z51) 0 0 34 0) := t52.mu (by show 0 ≤ 0 ∧ 0 ≤ 1; omega)
                  have q56 := q53.mu (f := 0) (k := 0) (j := 34) (z := 0) (by simp [rm])
                  have K3 := hK.rmk hF_n46
                  have hs3 := K3.at (i := i) (by omega) (by omega)
                  have he3 := hs3.en
                  refine m_blk 216 [(10, vi 0), (9, vi z20), (8, vi i), (7, vi (u + 1)), (6, vr 1 z5), (0, vr 0 0), (1, vi p), (3, vi b), (5, vi w)] [vr 0 0] C f_q_make_215_1 rfl ?_
                  refine m_getr C e_q_make_216 fg_Mo_30 rfl (by decide) rfl ?_
                  refine m_blk 220 [(10, vi 0), (9, vi z20), (8, vi i), (7, vi (u + 1)), (6, vr 1 z5), (0, vr 0 0), (1, vi p), (3, vi b), (5, vi w)] [vi p, vr 17 0] C f_q_make_219_1 rfl ?_
                  refine m_aald C p.toNat e_q_make_220 rfl rfl rfl (by decide) (by decide) (by omega) (by show p < ((6 : Nat) : Int); omega) (mz _ _) ?_
                  refine m_blk 223 [(10, vi 0), (9, vi z20), (8, vi i), (7, vi (u + 1)), (6, vr 1 z5), (0, vr 0 0), (1, vi p), (3, vi b), (5, vi w)] [vi i, vr 37 p.toNat] C f_q_make_221_1 rfl ?_
                  obtain ⟨x57, hx57⟩ : ∃ x, A44 37 p.toNat i.toNat = x := ⟨_, rfl⟩
                  have rx57 : 0 ≤ x57 ∧ x57 ≤ 16 := mrg hT_n46 hx57 rfl
                  refine m_iald C e_q_make_223 rfl (by omega) (by decide) (by omega) (by show i < ((16 : Nat) : Int); omega) x57 hx57 ?_
                  refine m_blk 22 [(8, vi x57), (10, vi 0), (9, vi z20), (7, vi (u + 1)), (6, vr 1 z5), (0, vr 0 0), (1, vi p), (3, vi b), (5, vi w)] [] C f_q_make_224_2 rfl ?_
                  refine m_loc [(8, vi x57), (7, vi (u + 1)), (6, vr 1 z5), (0, vr 0 0), (1, vi p), (3, vi b), (5, vi w)] ⟨rfl, rfl, rfl, rfl, rfl, rfl, rfl, trivial⟩ ?_
                  exact ih22 (mu (mu (mu A44 0 0 33 (u + 1)) 0 0 35 z51) 0 0 34 0) x57 t55 q56 (((hO_n46.muf (by decide) (by decide)).muf (by decide) (by decide)).muf (by decide) (by decide)) (by show a ≤ x57 ∧ x57 ≤ 16; omega) (by show (u + 1) = u + 1; omega) (((ms_n46.muf (by decide)).muf (by decide)).muf (by decide)) (by show (40 - x57) < _; omega)
                · refine m_blk 212 [(10, vi 0), (9, vi z20), (8, vi i), (7, vi (u + 1)), (6, vr 1 z5), (0, vr 0 0), (1, vi p), (3, vi b), (5, vi w)] [vi 1, vr 0 0] C f_q_make_207_2 rfl ?_
                  refine m_putz C e_q_make_212 fp_Mo_297 rfl (by decide) rfl (Or.inr rfl) ?_
                  have t58 : mTy (mu (mu (mu A44 0 0 33 (u + 1)) 0 0 35 z51) 0 0 34 1) := t52.mu (by show 0 ≤ 1 ∧ 1 ≤ 1; omega)
                  have q59 := q53.mu (f := 0) (k := 0) (j := 34) (z := 1) (by simp [rm])
                  have K3 := hK.rmk hF_n46
                  have hs3 := K3.at (i := i) (by omega) (by omega)
                  have he3 := hs3.en
                  refine m_blk 216 [(10, vi 0), (9, vi z20), (8, vi i), (7, vi (u + 1)), (6, vr 1 z5), (0, vr 0 0), (1, vi p), (3, vi b), (5, vi w)] [vr 0 0] C f_q_make_215_1 rfl ?_
                  refine m_getr C e_q_make_216 fg_Mo_30 rfl (by decide) rfl ?_
                  refine m_blk 220 [(10, vi 0), (9, vi z20), (8, vi i), (7, vi (u + 1)), (6, vr 1 z5), (0, vr 0 0), (1, vi p), (3, vi b), (5, vi w)] [vi p, vr 17 0] C f_q_make_219_1 rfl ?_
                  refine m_aald C p.toNat e_q_make_220 rfl rfl rfl (by decide) (by decide) (by omega) (by show p < ((6 : Nat) : Int); omega) (mz _ _) ?_
                  refine m_blk 223 [(10, vi 0), (9, vi z20), (8, vi i), (7, vi (u + 1)), (6, vr 1 z5), (0, vr 0 0), (1, vi p), (3, vi b), (5, vi w)] [vi i, vr 37 p.toNat] C f_q_make_221_1 rfl ?_
                  obtain ⟨x60, hx60⟩ : ∃ x, A44 37 p.toNat i.toNat = x := ⟨_, rfl⟩
                  have rx60 : 0 ≤ x60 ∧ x60 ≤ 16 := mrg hT_n46 hx60 rfl
                  refine m_iald C e_q_make_223 rfl (by omega) (by decide) (by omega) (by show i < ((16 : Nat) : Int); omega) x60 hx60 ?_
                  refine m_blk 22 [(8, vi x60), (10, vi 0), (9, vi z20), (7, vi (u + 1)), (6, vr 1 z5), (0, vr 0 0), (1, vi p), (3, vi b), (5, vi w)] [] C f_q_make_224_2 rfl ?_
                  refine m_loc [(8, vi x60), (7, vi (u + 1)), (6, vr 1 z5), (0, vr 0 0), (1, vi p), (3, vi b), (5, vi w)] ⟨rfl, rfl, rfl, rfl, rfl, rfl, rfl, trivial⟩ ?_
                  exact ih22 (mu (mu (mu A44 0 0 33 (u + 1)) 0 0 35 z51) 0 0 34 1) x60 t58 q59 (((hO_n46.muf (by decide) (by decide)).muf (by decide) (by decide)).muf (by decide) (by decide)) (by show a ≤ x60 ∧ x60 ≤ 16; omega) (by show (u + 1) = u + 1; omega) (((ms_n46.muf (by decide)).muf (by decide)).muf (by decide)) (by show (40 - x60) < _; omega)
              · refine m_blk 153 [(10, vi 0), (9, vi z20), (8, vi i), (7, vi (u + 1)), (6, vr 1 z5), (0, vr 0 0), (1, vi p), (3, vi b), (5, vi w)] [vr 1 z5] C f_q_make_151_1 rfl ?_
                exact m_aret C Rm E e_q_make_153 ⟨z5, rfl, hT_n33, hF_n33, (by show (z5 : Int) = u; omega), (by show u + 1 ≤ A31 0 0 33 ∧ A31 0 0 33 ≤ u + 2 + 4 * (5 - d); omega), (fun h9 => by have h8 : A31 0 0 34 = 0 := h9; omega), hO_n33, ms_n33⟩
            · refine m_blk 86 [(9, vi z20), (8, vi i), (7, vi (u + 1)), (6, vr 1 z5), (0, vr 0 0), (1, vi p), (3, vi b), (5, vi w)] [vr 0 0, vi z20] C f_q_make_83_2 rfl ?_
              refine m_getr C e_q_make_86 fg_Mo_24 rfl (by decide) rfl ?_
              refine m_blk 90 [(9, vi z20), (8, vi i), (7, vi (u + 1)), (6, vr 1 z5), (0, vr 0 0), (1, vi p), (3, vi b), (5, vi w)] [vi p, vr 15 0, vi z20] C f_q_make_89_1 rfl ?_
              refine m_aald C p.toNat e_q_make_90 rfl rfl rfl (by decide) (by decide) (by omega) (by show p < ((6 : Nat) : Int); omega) (mz _ _) ?_
              refine m_blk 93 [(9, vi z20), (8, vi i), (7, vi (u + 1)), (6, vr 1 z5), (0, vr 0 0), (1, vi p), (3, vi b), (5, vi w)] [vi i, vr 35 p.toNat, vi z20] C f_q_make_91_1 rfl ?_
              obtain ⟨x61, hx61⟩ : ∃ x, A2 35 p.toNat i.toNat = x := ⟨_, rfl⟩
              have rx61 : (-1) ≤ x61 ∧ x61 ≤ 5 := mrg hT2 hx61 rfl
              refine m_iald C e_q_make_93 rfl (by omega) (by decide) (by omega) (by show i < ((16 : Nat) : Int); omega) x61 hx61 ?_
              refine m_blk 97 [(9, vi z20), (8, vi i), (7, vi (u + 1)), (6, vr 1 z5), (0, vr 0 0), (1, vi p), (3, vi b), (5, vi w)] [vi (iAnd (iShr z20 x61) 1)] C f_q_make_94_3 rfl ?_
              refine m_if_ne (tgt := 120) C e_q_make_97 (by decide) (iAnd_r _ _) (fun c62 => ?_) (fun c62 => ?_)
              · refine m_blk 125 [(10, vi 0), (9, vi z20), (8, vi i), (7, vi (u + 1)), (6, vr 1 z5), (0, vr 0 0), (1, vi p), (3, vi b), (5, vi w)] [vi 0] C f_q_make_120_3 rfl ?_
                refine m_if_ne (tgt := 144) C e_q_make_125 (by decide) (by decide) (fun c63 => (by omega : False).elim) (fun c63 => ?_)
                refine m_blk 138 [(10, vi 0), (9, vi z20), (8, vi i), (7, vi (u + 1)), (6, vr 1 z5), (0, vr 0 0), (1, vi p), (3, vi b), (5, vi w)] [vi z20, vr 1 z5, vi i, vi p, vr 0 0, vr 1 z5] C f_q_make_128_6 rfl ?_
                refine m_callV C Rm Y [vi p, vi i, vr 1 z5, vi z20] [vr 1 z5] ((hrec n1 hn1) l D B H0 ad _ hT2 (u + 1) T N M Ln dep p i z5 z20 (by show 0 ≤ p ∧ p ≤ 5; omega) (hK.rmk hE2) (ha.rmk hE2) (by show 0 ≤ i ∧ i < N ∧ 20 * p + 16 - i ≤ (n1 : Int); omega) (by show A2 0 0 33 = (u + 1) ∧ 0 ≤ (u + 1) ∧ (u + 1) + (19 * p + 22 - 4 * dep i.toNat) ≤ 200; omega) (by show (z5 : Int) < (u + 1); omega) hO2 (by show 0 ≤ T ∧ T ≤ 1125899906842624; omega) (by show -2147483648 ≤ z20 ∧ z20 ≤ 2147483647; omega) hS2) cl_Mo_306 rfl (by decide) rfl rfl e_q_make_138 rfl rfl rfl ⟨by show _ ≤ (200 + 6 * n : Nat); omega, by show _ ≤ (5500 + 150 * n : Nat); omega⟩ ?_
                rintro v64 A65 ⟨z68, rfl, hT_n67, hE_n67, raw_hz_n67, raw_hu_n67, raw_hO_n67, raw_hS_n67⟩
                have hF_n67 := hE2.trans (hE_n67.sub (rm_rm (by omega)))
                have hz_n67 : (u + 1) ≤ (z68 : Int) ∧ (z68 : Int) < A65 0 0 33 := raw_hz_n67
                clear raw_hz_n67
                have hu_n67 : (u + 1) + 1 ≤ A65 0 0 33 ∧ A65 0 0 33 ≤ (u + 1) + 1 + 4 * (5 - dep i.toNat) := raw_hu_n67
                clear raw_hu_n67
                have hO_n67 : oG A65 z68 T := raw_hO_n67
                clear raw_hO_n67
                have hS_n67 : mS A65 := raw_hS_n67
                clear raw_hS_n67
                show JM g D ad w0 A65 141 [(10, vi 0), (9, vi z20), (8, vi i), (7, vi (u + 1)), (6, vr 1 z5), (0, vr 0 0), (1, vi p), (3, vi b), (5, vi w)] [vr 1 z68, vr 1 z5]
                refine m_callV C Rm Y [vr 1 z68] [] (q_becomes l D B H0 ad _ hT_n67 z5 T z68 (by show z5 < 200 ∧ z68 < 200; omega) hO_n67) cl_Mo_293 rfl (by omega) rfl rfl e_q_make_141 rfl rfl rfl ⟨by show _ ≤ (200 + 6 * n : Nat); omega, by show _ ≤ (5500 + 150 * n : Nat); omega⟩ ?_
                rintro v69 A70 ⟨rfl, hT_n72, hE_n72, raw_hO_n72⟩
                have hF_n72 := hF_n67.trans (hE_n72.sub (cm_rm (by omega)))
                have hO_n72 : oG A70 z5 T := raw_hO_n72
                clear raw_hO_n72
                show JM g D ad w0 A70 144 [(10, vi 0), (9, vi z20), (8, vi i), (7, vi (u + 1)), (6, vr 1 z5), (0, vr 0 0), (1, vi p), (3, vi b), (5, vi w)] []
                have ms_n72 : mS A70 := hS_n67.cmk hE_n72
                have ku_n72 : A70 0 0 33 = A65 0 0 33 := hE_n72 0 0 33 rfl
                refine m_blk 145 [(10, vi 0), (9, vi z20), (8, vi i), (7, vi (u + 1)), (6, vr 1 z5), (0, vr 0 0), (1, vi p), (3, vi b), (5, vi w)] [vr 0 0] C f_q_make_144_1 rfl ?_
                obtain ⟨x73, hx73⟩ : ∃ x, A70 0 0 34 = x := ⟨_, rfl⟩
                have rx73 : 0 ≤ x73 ∧ x73 ≤ 1 := mrg hT_n72 hx73 rfl
                refine m_geti C e_q_make_145 fg_Mo_297 rfl (by decide) rfl x73 hx73 ?_
                refine m_if_eq (tgt := 154) C e_q_make_148 (by decide) (by omega) (fun c74 => ?_) (fun c74 => ?_)
                · refine m_blk 157 [(10, vi 0), (9, vi z20), (8, vi i), (7, vi (u + 1)), (6, vr 1 z5), (0, vr 0 0), (1, vi p), (3, vi b), (5, vi w)] [vi (-1), vi w] C f_q_make_154_2 rfl ?_
                  refine m_icmp_eq (tgt := 173) C e_q_make_157 (by decide) (by omega) (by decide) (fun c75 => (by omega : False).elim) (fun c75 => ?_)
                  obtain ⟨uf76, huf76⟩ : ∃ x, A70 0 0 33 = x := ⟨_, rfl⟩
                  refine m_blk 167 [(10, vi 0), (9, vi z20), (8, vi i), (7, vi (u + 1)), (6, vr 1 z5), (0, vr 0 0), (1, vi p), (3, vi b), (5, vi w)] [vi z20, vr 1 z5, vr 0 0, vr 1 z5] C f_q_make_160_4 rfl ?_
                  refine m_callV C Rm Y [vr 1 z5, vi z20] [vr 1 z5] (q_forget l D B H0 ad _ hT_n72 uf76 T z5 z20 (by show A70 0 0 33 = uf76 ∧ 0 ≤ uf76 ∧ uf76 ≤ 199; omega) (by show (z5 : Int) < uf76; omega) hO_n72 (by show 0 ≤ T ∧ T ≤ 1125899906842624; omega) (by show -2147483648 ≤ z20 ∧ z20 ≤ 2147483647; omega)) cl_Mo_310 rfl (by decide) rfl rfl e_q_make_167 rfl rfl rfl ⟨by show _ ≤ (200 + 6 * n : Nat); omega, by show _ ≤ (5500 + 150 * n : Nat); omega⟩ ?_
                  rintro v77 A78 ⟨z81, rfl, hT_n80, hE_n80, raw_hz_n80, raw_hu_n80, raw_hO_n80⟩
                  have hF_n80 := hF_n72.trans (hE_n80.sub (dm_rm (by omega)))
                  have hz_n80 : (z81 : Int) = uf76 := raw_hz_n80
                  clear raw_hz_n80
                  have hu_n80 : A78 0 0 33 = uf76 + 1 := raw_hu_n80
                  clear raw_hu_n80
                  have hO_n80 : oG A78 z81 T := raw_hO_n80
                  clear raw_hO_n80
                  show JM g D ad w0 A78 170 [(10, vi 0), (9, vi z20), (8, vi i), (7, vi (u + 1)), (6, vr 1 z5), (0, vr 0 0), (1, vi p), (3, vi b), (5, vi w)] [vr 1 z81, vr 1 z5]
                  have ms_n80 : mS A78 := ms_n72.dmk hE_n80
                  refine m_callV C Rm Y [vr 1 z81] [] (q_becomes l D B H0 ad _ hT_n80 z5 T z81 (by show z5 < 200 ∧ z81 < 200; omega) hO_n80) cl_Mo_293 rfl (by omega) rfl rfl e_q_make_170 rfl rfl rfl ⟨by show _ ≤ (200 + 6 * n : Nat); omega, by show _ ≤ (5500 + 150 * n : Nat); omega⟩ ?_
                  rintro v82 A83 ⟨rfl, hT_n85, hE_n85, raw_hO_n85⟩
                  have hF_n85 := hF_n80.trans (hE_n85.sub (cm_rm (by omega)))
                  have hO_n85 : oG A83 z5 T := raw_hO_n85
                  clear raw_hO_n85
                  show JM g D ad w0 A83 173 [(10, vi 0), (9, vi z20), (8, vi i), (7, vi (u + 1)), (6, vr 1 z5), (0, vr 0 0), (1, vi p), (3, vi b), (5, vi w)] []
                  have ms_n85 : mS A83 := ms_n80.cmk hE_n85
                  refine m_blk 176 [(10, vi 0), (9, vi z20), (8, vi i), (7, vi (u + 1)), (6, vr 1 z5), (0, vr 0 0), (1, vi p), (3, vi b), (5, vi w)] [vi (u + 1), vr 0 0] C f_q_make_173_2 rfl ?_
                  refine m_puti C e_q_make_176 fp_Mo_269 rfl (by decide) rfl ?_
                  have t86 : mTy (mu A83 0 0 33 (u + 1)) := hT_n85.mu (by show 0 ≤ (u + 1) ∧ (u + 1) ≤ 200; omega)
                  have q87 := hF_n85.mu (f := 0) (k := 0) (j := 33) (z := (u + 1)) (by simp [rm])
                  refine m_blk 181 [(10, vi 0), (9, vi z20), (8, vi i), (7, vi (u + 1)), (6, vr 1 z5), (0, vr 0 0), (1, vi p), (3, vi b), (5, vi w)] [vr 0 0, vr 0 0] C f_q_make_179_2 rfl ?_
                  obtain ⟨x88, hx88⟩ : ∃ x, A83 0 0 35 = x := ⟨_, rfl⟩
                  have rx88 : (-2147483648) ≤ x88 ∧ x88 ≤ 2147483647 := mrg hT_n85 hx88 rfl
                  refine m_geti C e_q_make_181 fg_Mo_314 rfl (by decide) rfl x88 hx88 ?_
                  refine m_blk 186 [(10, vi 0), (9, vi z20), (8, vi i), (7, vi (u + 1)), (6, vr 1 z5), (0, vr 0 0), (1, vi p), (3, vi b), (5, vi w)] [vr 1 z5, vi x88, vr 0 0] C f_q_make_184_1 rfl ?_
                  obtain ⟨x89, hx89⟩ : ∃ x, A83 1 z5 2 = x := ⟨_, rfl⟩
                  have rx89 : 0 ≤ x89 ∧ x89 ≤ 301 := mrg hT_n85 hx89 rfl
                  refine m_getiN C e_q_make_186 fg_Mo_272 rfl (by omega) rfl x89 hx89 ?_
                  refine m_mmax C Rm cl_Mo_243 e_q_make_189 (by show 1 ≤ (200 + 6 * n : Nat); omega) (by show 1 + 13 ≤ (5500 + 150 * n : Nat); omega) (by omega) (by omega) (fun z90 hz90 => ?_)
                  refine m_puti C e_q_make_192 fp_Mo_314 rfl (by decide) rfl ?_
                  have t91 : mTy (mu (mu A83 0 0 33 (u + 1)) 0 0 35 z90) := t86.mu (by show (-2147483648) ≤ z90 ∧ z90 ≤ 2147483647; omega)
                  have q92 := q87.mu (f := 0) (k := 0) (j := 35) (z := z90) (by simp [rm])
                  refine m_blk 198 [(10, vi 0), (9, vi z20), (8, vi i), (7, vi (u + 1)), (6, vr 1 z5), (0, vr 0 0), (1, vi p), (3, vi b), (5, vi w)] [vr 1 z5, vr 0 0] C f_q_make_195_2 rfl ?_
                  refine m_getiN C e_q_make_198 fg_Mo_272 rfl (by omega) rfl x89 hx89 ?_
                  refine m_blk 204 [(10, vi 0), (9, vi z20), (8, vi i), (7, vi (u + 1)), (6, vr 1 z5), (0, vr 0 0), (1, vi p), (3, vi b), (5, vi w)] [vi 300, vi x89, vr 0 0] C f_q_make_201_1 rfl ?_
                  refine m_icmp_le (tgt := 211) C e_q_make_204 (by decide) (by omega) (by decide) (fun c93 => ?_) (fun c93 => ?_)
                  · refine m_blk 212 [(10, vi 0), (9, vi z20), (8, vi i), (7, vi (u + 1)), (6, vr 1 z5), (0, vr 0 0), (1, vi p), (3, vi b), (5, vi w)] [vi 0, vr 0 0] C f_q_make_211_1 rfl ?_
                    refine m_putz C e_q_make_212 fp_Mo_297 rfl (by decide) rfl (Or.inl rfl) ?_
                    have t94 : mTy (mu (mu (mu A83 0 0 33 (u + 1)) 0 0 35 z90) 0 0 34 0) := t91.mu (by show 0 ≤ 0 ∧ 0 ≤ 1; omega)
                    have q95 := q92.mu (f := 0) (k := 0) (j := 34) (z := 0) (by simp [rm])
                    have K3 := hK.rmk hF_n85
                    have hs3 := K3.at (i := i) (by omega) (by omega)
                    have he3 := hs3.en
                    refine m_blk 216 [(10, vi 0), (9, vi z20), (8, vi i), (7, vi (u + 1)), (6, vr 1 z5), (0, vr 0 0), (1, vi p), (3, vi b), (5, vi w)] [vr 0 0] C f_q_make_215_1 rfl ?_
                    refine m_getr C e_q_make_216 fg_Mo_30 rfl (by decide) rfl ?_
                    refine m_blk 220 [(10, vi 0), (9, vi z20), (8, vi i), (7, vi (u + 1)), (6, vr 1 z5), (0, vr 0 0), (1, vi p), (3, vi b), (5, vi w)] [vi p, vr 17 0] C f_q_make_219_1 rfl ?_
                    refine m_aald C p.toNat e_q_make_220 rfl rfl rfl (by decide) (by decide) (by omega) (by show p < ((6 : Nat) : Int); omega) (mz _ _) ?_
                    refine m_blk 223 [(10, vi 0), (9, vi z20), (8, vi i), (7, vi (u + 1)), (6, vr 1 z5), (0, vr 0 0), (1, vi p), (3, vi b), (5, vi w)] [vi i, vr 37 p.toNat] C f_q_make_221_1 rfl ?_
                    obtain ⟨x96, hx96⟩ : ∃ x, A83 37 p.toNat i.toNat = x := ⟨_, rfl⟩
                    have rx96 : 0 ≤ x96 ∧ x96 ≤ 16 := mrg hT_n85 hx96 rfl
                    refine m_iald C e_q_make_223 rfl (by omega) (by decide) (by omega) (by show i < ((16 : Nat) : Int); omega) x96 hx96 ?_
                    refine m_blk 22 [(8, vi x96), (10, vi 0), (9, vi z20), (7, vi (u + 1)), (6, vr 1 z5), (0, vr 0 0), (1, vi p), (3, vi b), (5, vi w)] [] C f_q_make_224_2 rfl ?_
                    refine m_loc [(8, vi x96), (7, vi (u + 1)), (6, vr 1 z5), (0, vr 0 0), (1, vi p), (3, vi b), (5, vi w)] ⟨rfl, rfl, rfl, rfl, rfl, rfl, rfl, trivial⟩ ?_
                    exact ih22 (mu (mu (mu A83 0 0 33 (u + 1)) 0 0 35 z90) 0 0 34 0) x96 t94 q95 (((hO_n85.muf (by decide) (by decide)).muf (by decide) (by decide)).muf (by decide) (by decide)) (by show a ≤ x96 ∧ x96 ≤ 16; omega) (by show (u + 1) = u + 1; omega) (((ms_n85.muf (by decide)).muf (by decide)).muf (by decide)) (by show (40 - x96) < _; omega)
                  · refine m_blk 212 [(10, vi 0), (9, vi z20), (8, vi i), (7, vi (u + 1)), (6, vr 1 z5), (0, vr 0 0), (1, vi p), (3, vi b), (5, vi w)] [vi 1, vr 0 0] C f_q_make_207_2 rfl ?_
                    refine m_putz C e_q_make_212 fp_Mo_297 rfl (by decide) rfl (Or.inr rfl) ?_
                    have t97 : mTy (mu (mu (mu A83 0 0 33 (u + 1)) 0 0 35 z90) 0 0 34 1) := t91.mu (by show 0 ≤ 1 ∧ 1 ≤ 1; omega)
                    have q98 := q92.mu (f := 0) (k := 0) (j := 34) (z := 1) (by simp [rm])
                    have K3 := hK.rmk hF_n85
                    have hs3 := K3.at (i := i) (by omega) (by omega)
                    have he3 := hs3.en
                    refine m_blk 216 [(10, vi 0), (9, vi z20), (8, vi i), (7, vi (u + 1)), (6, vr 1 z5), (0, vr 0 0), (1, vi p), (3, vi b), (5, vi w)] [vr 0 0] C f_q_make_215_1 rfl ?_
                    refine m_getr C e_q_make_216 fg_Mo_30 rfl (by decide) rfl ?_
                    refine m_blk 220 [(10, vi 0), (9, vi z20), (8, vi i), (7, vi (u + 1)), (6, vr 1 z5), (0, vr 0 0), (1, vi p), (3, vi b), (5, vi w)] [vi p, vr 17 0] C f_q_make_219_1 rfl ?_
                    refine m_aald C p.toNat e_q_make_220 rfl rfl rfl (by decide) (by decide) (by omega) (by show p < ((6 : Nat) : Int); omega) (mz _ _) ?_
                    refine m_blk 223 [(10, vi 0), (9, vi z20), (8, vi i), (7, vi (u + 1)), (6, vr 1 z5), (0, vr 0 0), (1, vi p), (3, vi b), (5, vi w)] [vi i, vr 37 p.toNat] C f_q_make_221_1 rfl ?_
                    obtain ⟨x99, hx99⟩ : ∃ x, A83 37 p.toNat i.toNat = x := ⟨_, rfl⟩
                    have rx99 : 0 ≤ x99 ∧ x99 ≤ 16 := mrg hT_n85 hx99 rfl
                    refine m_iald C e_q_make_223 rfl (by omega) (by decide) (by omega) (by show i < ((16 : Nat) : Int); omega) x99 hx99 ?_
                    refine m_blk 22 [(8, vi x99), (10, vi 0), (9, vi z20), (7, vi (u + 1)), (6, vr 1 z5), (0, vr 0 0), (1, vi p), (3, vi b), (5, vi w)] [] C f_q_make_224_2 rfl ?_
                    refine m_loc [(8, vi x99), (7, vi (u + 1)), (6, vr 1 z5), (0, vr 0 0), (1, vi p), (3, vi b), (5, vi w)] ⟨rfl, rfl, rfl, rfl, rfl, rfl, rfl, trivial⟩ ?_
                    exact ih22 (mu (mu (mu A83 0 0 33 (u + 1)) 0 0 35 z90) 0 0 34 1) x99 t97 q98 (((hO_n85.muf (by decide) (by decide)).muf (by decide) (by decide)).muf (by decide) (by decide)) (by show a ≤ x99 ∧ x99 ≤ 16; omega) (by show (u + 1) = u + 1; omega) (((ms_n85.muf (by decide)).muf (by decide)).muf (by decide)) (by show (40 - x99) < _; omega)
                · refine m_blk 153 [(10, vi 0), (9, vi z20), (8, vi i), (7, vi (u + 1)), (6, vr 1 z5), (0, vr 0 0), (1, vi p), (3, vi b), (5, vi w)] [vr 1 z5] C f_q_make_151_1 rfl ?_
                  exact m_aret C Rm E e_q_make_153 ⟨z5, rfl, hT_n72, hF_n72, (by show (z5 : Int) = u; omega), (by show u + 1 ≤ A70 0 0 33 ∧ A70 0 0 33 ≤ u + 2 + 4 * (5 - d); omega), (fun h9 => by have h8 : A70 0 0 34 = 0 := h9; omega), hO_n72, ms_n72⟩
              · have f9 := hs9.k5 (by omega)
                refine m_blk 102 [(9, vi z20), (8, vi i), (7, vi (u + 1)), (6, vr 1 z5), (0, vr 0 0), (1, vi p), (3, vi b), (5, vi w)] [vr 0 0, vr 0 0] C f_q_make_100_2 rfl ?_
                refine m_getr C e_q_make_102 fg_Mo_27 rfl (by decide) rfl ?_
                refine m_blk 106 [(9, vi z20), (8, vi i), (7, vi (u + 1)), (6, vr 1 z5), (0, vr 0 0), (1, vi p), (3, vi b), (5, vi w)] [vi p, vr 16 0, vr 0 0] C f_q_make_105_1 rfl ?_
                refine m_aald C p.toNat e_q_make_106 rfl rfl rfl (by decide) (by decide) (by omega) (by show p < ((6 : Nat) : Int); omega) (mz _ _) ?_
                refine m_blk 109 [(9, vi z20), (8, vi i), (7, vi (u + 1)), (6, vr 1 z5), (0, vr 0 0), (1, vi p), (3, vi b), (5, vi w)] [vi i, vr 36 p.toNat, vr 0 0] C f_q_make_107_1 rfl ?_
                obtain ⟨x100, hx100⟩ : ∃ x, A2 36 p.toNat i.toNat = x := ⟨_, rfl⟩
                have rx100 : (-1) ≤ x100 ∧ x100 ≤ 9 := mrg hT2 hx100 rfl
                refine m_iald C e_q_make_109 rfl (by omega) (by decide) (by omega) (by show i < ((16 : Nat) : Int); omega) x100 hx100 ?_
                refine m_callV C Rm Y [vi x100] [] ((q_sees_ 6) l D B H0 ad _ hT2 x100 ((ha.rmk hE2).le (by omega)) (by show 0 ≤ x100 ∧ x100 ≤ 5 ∧ x100 < ((6 : Nat) : Int); omega)) cl_Mo_303 rfl (by decide) rfl rfl e_q_make_110 rfl rfl rfl ⟨by show _ ≤ (200 + 6 * n : Nat); omega, by show _ ≤ (5500 + 150 * n : Nat); omega⟩ ?_
                rintro v101 A102 ⟨z105, rfl, rfl, raw_hz_n104⟩
                have hz_n104 : z105 = 0 ∨ z105 = 1 := raw_hz_n104
                clear raw_hz_n104
                show JM g D ad w0 A2 113 [(9, vi z20), (8, vi i), (7, vi (u + 1)), (6, vr 1 z5), (0, vr 0 0), (1, vi p), (3, vi b), (5, vi w)] [vi z105]
                refine m_if_ne (tgt := 120) C e_q_make_113 (by decide) (by omega) (fun c106 => ?_) (fun c106 => ?_)
                · refine m_blk 125 [(10, vi 0), (9, vi z20), (8, vi i), (7, vi (u + 1)), (6, vr 1 z5), (0, vr 0 0), (1, vi p), (3, vi b), (5, vi w)] [vi 0] C f_q_make_120_3 rfl ?_
                  refine m_if_ne (tgt := 144) C e_q_make_125 (by decide) (by decide) (fun c107 => (by omega : False).elim) (fun c107 => ?_)
                  refine m_blk 138 [(10, vi 0), (9, vi z20), (8, vi i), (7, vi (u + 1)), (6, vr 1 z5), (0, vr 0 0), (1, vi p), (3, vi b), (5, vi w)] [vi z20, vr 1 z5, vi i, vi p, vr 0 0, vr 1 z5] C f_q_make_128_6 rfl ?_
                  refine m_callV C Rm Y [vi p, vi i, vr 1 z5, vi z20] [vr 1 z5] ((hrec n1 hn1) l D B H0 ad _ hT2 (u + 1) T N M Ln dep p i z5 z20 (by show 0 ≤ p ∧ p ≤ 5; omega) (hK.rmk hE2) (ha.rmk hE2) (by show 0 ≤ i ∧ i < N ∧ 20 * p + 16 - i ≤ (n1 : Int); omega) (by show A2 0 0 33 = (u + 1) ∧ 0 ≤ (u + 1) ∧ (u + 1) + (19 * p + 22 - 4 * dep i.toNat) ≤ 200; omega) (by show (z5 : Int) < (u + 1); omega) hO2 (by show 0 ≤ T ∧ T ≤ 1125899906842624; omega) (by show -2147483648 ≤ z20 ∧ z20 ≤ 2147483647; omega) hS2) cl_Mo_306 rfl (by decide) rfl rfl e_q_make_138 rfl rfl rfl ⟨by show _ ≤ (200 + 6 * n : Nat); omega, by show _ ≤ (5500 + 150 * n : Nat); omega⟩ ?_
                  rintro v108 A109 ⟨z112, rfl, hT_n111, hE_n111, raw_hz_n111, raw_hu_n111, raw_hO_n111, raw_hS_n111⟩
                  have hF_n111 := hE2.trans (hE_n111.sub (rm_rm (by omega)))
                  have hz_n111 : (u + 1) ≤ (z112 : Int) ∧ (z112 : Int) < A109 0 0 33 := raw_hz_n111
                  clear raw_hz_n111
                  have hu_n111 : (u + 1) + 1 ≤ A109 0 0 33 ∧ A109 0 0 33 ≤ (u + 1) + 1 + 4 * (5 - dep i.toNat) := raw_hu_n111
                  clear raw_hu_n111
                  have hO_n111 : oG A109 z112 T := raw_hO_n111
                  clear raw_hO_n111
                  have hS_n111 : mS A109 := raw_hS_n111
                  clear raw_hS_n111
                  show JM g D ad w0 A109 141 [(10, vi 0), (9, vi z20), (8, vi i), (7, vi (u + 1)), (6, vr 1 z5), (0, vr 0 0), (1, vi p), (3, vi b), (5, vi w)] [vr 1 z112, vr 1 z5]
                  refine m_callV C Rm Y [vr 1 z112] [] (q_becomes l D B H0 ad _ hT_n111 z5 T z112 (by show z5 < 200 ∧ z112 < 200; omega) hO_n111) cl_Mo_293 rfl (by omega) rfl rfl e_q_make_141 rfl rfl rfl ⟨by show _ ≤ (200 + 6 * n : Nat); omega, by show _ ≤ (5500 + 150 * n : Nat); omega⟩ ?_
                  rintro v113 A114 ⟨rfl, hT_n116, hE_n116, raw_hO_n116⟩
                  have hF_n116 := hF_n111.trans (hE_n116.sub (cm_rm (by omega)))
                  have hO_n116 : oG A114 z5 T := raw_hO_n116
                  clear raw_hO_n116
                  show JM g D ad w0 A114 144 [(10, vi 0), (9, vi z20), (8, vi i), (7, vi (u + 1)), (6, vr 1 z5), (0, vr 0 0), (1, vi p), (3, vi b), (5, vi w)] []
                  have ms_n116 : mS A114 := hS_n111.cmk hE_n116
                  have ku_n116 : A114 0 0 33 = A109 0 0 33 := hE_n116 0 0 33 rfl
                  refine m_blk 145 [(10, vi 0), (9, vi z20), (8, vi i), (7, vi (u + 1)), (6, vr 1 z5), (0, vr 0 0), (1, vi p), (3, vi b), (5, vi w)] [vr 0 0] C f_q_make_144_1 rfl ?_
                  obtain ⟨x117, hx117⟩ : ∃ x, A114 0 0 34 = x := ⟨_, rfl⟩
                  have rx117 : 0 ≤ x117 ∧ x117 ≤ 1 := mrg hT_n116 hx117 rfl
                  refine m_geti C e_q_make_145 fg_Mo_297 rfl (by decide) rfl x117 hx117 ?_
                  refine m_if_eq (tgt := 154) C e_q_make_148 (by decide) (by omega) (fun c118 => ?_) (fun c118 => ?_)
                  · refine m_blk 157 [(10, vi 0), (9, vi z20), (8, vi i), (7, vi (u + 1)), (6, vr 1 z5), (0, vr 0 0), (1, vi p), (3, vi b), (5, vi w)] [vi (-1), vi w] C f_q_make_154_2 rfl ?_
                    refine m_icmp_eq (tgt := 173) C e_q_make_157 (by decide) (by omega) (by decide) (fun c119 => (by omega : False).elim) (fun c119 => ?_)
                    obtain ⟨uf120, huf120⟩ : ∃ x, A114 0 0 33 = x := ⟨_, rfl⟩
                    refine m_blk 167 [(10, vi 0), (9, vi z20), (8, vi i), (7, vi (u + 1)), (6, vr 1 z5), (0, vr 0 0), (1, vi p), (3, vi b), (5, vi w)] [vi z20, vr 1 z5, vr 0 0, vr 1 z5] C f_q_make_160_4 rfl ?_
                    refine m_callV C Rm Y [vr 1 z5, vi z20] [vr 1 z5] (q_forget l D B H0 ad _ hT_n116 uf120 T z5 z20 (by show A114 0 0 33 = uf120 ∧ 0 ≤ uf120 ∧ uf120 ≤ 199; omega) (by show (z5 : Int) < uf120; omega) hO_n116 (by show 0 ≤ T ∧ T ≤ 1125899906842624; omega) (by show -2147483648 ≤ z20 ∧ z20 ≤ 2147483647; omega)) cl_Mo_310 rfl (by decide) rfl rfl e_q_make_167 rfl rfl rfl ⟨by show _ ≤ (200 + 6 * n : Nat); omega, by show _ ≤ (5500 + 150 * n : Nat); omega⟩ ?_
                    rintro v121 A122 ⟨z125, rfl, hT_n124, hE_n124, raw_hz_n124, raw_hu_n124, raw_hO_n124⟩
                    have hF_n124 := hF_n116.trans (hE_n124.sub (dm_rm (by omega)))
                    have hz_n124 : (z125 : Int) = uf120 := raw_hz_n124
                    clear raw_hz_n124
                    have hu_n124 : A122 0 0 33 = uf120 + 1 := raw_hu_n124
                    clear raw_hu_n124
                    have hO_n124 : oG A122 z125 T := raw_hO_n124
                    clear raw_hO_n124
                    show JM g D ad w0 A122 170 [(10, vi 0), (9, vi z20), (8, vi i), (7, vi (u + 1)), (6, vr 1 z5), (0, vr 0 0), (1, vi p), (3, vi b), (5, vi w)] [vr 1 z125, vr 1 z5]
                    have ms_n124 : mS A122 := ms_n116.dmk hE_n124
                    refine m_callV C Rm Y [vr 1 z125] [] (q_becomes l D B H0 ad _ hT_n124 z5 T z125 (by show z5 < 200 ∧ z125 < 200; omega) hO_n124) cl_Mo_293 rfl (by omega) rfl rfl e_q_make_170 rfl rfl rfl ⟨by show _ ≤ (200 + 6 * n : Nat); omega, by show _ ≤ (5500 + 150 * n : Nat); omega⟩ ?_
                    rintro v126 A127 ⟨rfl, hT_n129, hE_n129, raw_hO_n129⟩
                    have hF_n129 := hF_n124.trans (hE_n129.sub (cm_rm (by omega)))
                    have hO_n129 : oG A127 z5 T := raw_hO_n129
                    clear raw_hO_n129
                    show JM g D ad w0 A127 173 [(10, vi 0), (9, vi z20), (8, vi i), (7, vi (u + 1)), (6, vr 1 z5), (0, vr 0 0), (1, vi p), (3, vi b), (5, vi w)] []
                    have ms_n129 : mS A127 := ms_n124.cmk hE_n129
                    refine m_blk 176 [(10, vi 0), (9, vi z20), (8, vi i), (7, vi (u + 1)), (6, vr 1 z5), (0, vr 0 0), (1, vi p), (3, vi b), (5, vi w)] [vi (u + 1), vr 0 0] C f_q_make_173_2 rfl ?_
                    refine m_puti C e_q_make_176 fp_Mo_269 rfl (by decide) rfl ?_
                    have t130 : mTy (mu A127 0 0 33 (u + 1)) := hT_n129.mu (by show 0 ≤ (u + 1) ∧ (u + 1) ≤ 200; omega)
                    have q131 := hF_n129.mu (f := 0) (k := 0) (j := 33) (z := (u + 1)) (by simp [rm])
                    refine m_blk 181 [(10, vi 0), (9, vi z20), (8, vi i), (7, vi (u + 1)), (6, vr 1 z5), (0, vr 0 0), (1, vi p), (3, vi b), (5, vi w)] [vr 0 0, vr 0 0] C f_q_make_179_2 rfl ?_
                    obtain ⟨x132, hx132⟩ : ∃ x, A127 0 0 35 = x := ⟨_, rfl⟩
                    have rx132 : (-2147483648) ≤ x132 ∧ x132 ≤ 2147483647 := mrg hT_n129 hx132 rfl
                    refine m_geti C e_q_make_181 fg_Mo_314 rfl (by decide) rfl x132 hx132 ?_
                    refine m_blk 186 [(10, vi 0), (9, vi z20), (8, vi i), (7, vi (u + 1)), (6, vr 1 z5), (0, vr 0 0), (1, vi p), (3, vi b), (5, vi w)] [vr 1 z5, vi x132, vr 0 0] C f_q_make_184_1 rfl ?_
                    obtain ⟨x133, hx133⟩ : ∃ x, A127 1 z5 2 = x := ⟨_, rfl⟩
                    have rx133 : 0 ≤ x133 ∧ x133 ≤ 301 := mrg hT_n129 hx133 rfl
                    refine m_getiN C e_q_make_186 fg_Mo_272 rfl (by omega) rfl x133 hx133 ?_
                    refine m_mmax C Rm cl_Mo_243 e_q_make_189 (by show 1 ≤ (200 + 6 * n : Nat); omega) (by show 1 + 13 ≤ (5500 + 150 * n : Nat); omega) (by omega) (by omega) (fun z134 hz134 => ?_)
                    refine m_puti C e_q_make_192 fp_Mo_314 rfl (by decide) rfl ?_
                    have t135 : mTy (mu (mu A127 0 0 33 (u + 1)) 0 0 35 z134) := t130.mu (by show (-2147483648) ≤ z134 ∧ z134 ≤ 2147483647; omega)
                    have q136 := q131.mu (f := 0) (k := 0) (j := 35) (z := z134) (by simp [rm])
                    refine m_blk 198 [(10, vi 0), (9, vi z20), (8, vi i), (7, vi (u + 1)), (6, vr 1 z5), (0, vr 0 0), (1, vi p), (3, vi b), (5, vi w)] [vr 1 z5, vr 0 0] C f_q_make_195_2 rfl ?_
                    refine m_getiN C e_q_make_198 fg_Mo_272 rfl (by omega) rfl x133 hx133 ?_
                    refine m_blk 204 [(10, vi 0), (9, vi z20), (8, vi i), (7, vi (u + 1)), (6, vr 1 z5), (0, vr 0 0), (1, vi p), (3, vi b), (5, vi w)] [vi 300, vi x133, vr 0 0] C f_q_make_201_1 rfl ?_
                    refine m_icmp_le (tgt := 211) C e_q_make_204 (by decide) (by omega) (by decide) (fun c137 => ?_) (fun c137 => ?_)
                    · refine m_blk 212 [(10, vi 0), (9, vi z20), (8, vi i), (7, vi (u + 1)), (6, vr 1 z5), (0, vr 0 0), (1, vi p), (3, vi b), (5, vi w)] [vi 0, vr 0 0] C f_q_make_211_1 rfl ?_
                      refine m_putz C e_q_make_212 fp_Mo_297 rfl (by decide) rfl (Or.inl rfl) ?_
                      have t138 : mTy (mu (mu (mu A127 0 0 33 (u + 1)) 0 0 35 z134) 0 0 34 0) := t135.mu (by show 0 ≤ 0 ∧ 0 ≤ 1; omega)
                      have q139 := q136.mu (f := 0) (k := 0) (j := 34) (z := 0) (by simp [rm])
                      have K3 := hK.rmk hF_n129
                      have hs3 := K3.at (i := i) (by omega) (by omega)
                      have he3 := hs3.en
                      refine m_blk 216 [(10, vi 0), (9, vi z20), (8, vi i), (7, vi (u + 1)), (6, vr 1 z5), (0, vr 0 0), (1, vi p), (3, vi b), (5, vi w)] [vr 0 0] C f_q_make_215_1 rfl ?_
                      refine m_getr C e_q_make_216 fg_Mo_30 rfl (by decide) rfl ?_
                      refine m_blk 220 [(10, vi 0), (9, vi z20), (8, vi i), (7, vi (u + 1)), (6, vr 1 z5), (0, vr 0 0), (1, vi p), (3, vi b), (5, vi w)] [vi p, vr 17 0] C f_q_make_219_1 rfl ?_
                      refine m_aald C p.toNat e_q_make_220 rfl rfl rfl (by decide) (by decide) (by omega) (by show p < ((6 : Nat) : Int); omega) (mz _ _) ?_
                      refine m_blk 223 [(10, vi 0), (9, vi z20), (8, vi i), (7, vi (u + 1)), (6, vr 1 z5), (0, vr 0 0), (1, vi p), (3, vi b), (5, vi w)] [vi i, vr 37 p.toNat] C f_q_make_221_1 rfl ?_
                      obtain ⟨x140, hx140⟩ : ∃ x, A127 37 p.toNat i.toNat = x := ⟨_, rfl⟩
                      have rx140 : 0 ≤ x140 ∧ x140 ≤ 16 := mrg hT_n129 hx140 rfl
                      refine m_iald C e_q_make_223 rfl (by omega) (by decide) (by omega) (by show i < ((16 : Nat) : Int); omega) x140 hx140 ?_
                      refine m_blk 22 [(8, vi x140), (10, vi 0), (9, vi z20), (7, vi (u + 1)), (6, vr 1 z5), (0, vr 0 0), (1, vi p), (3, vi b), (5, vi w)] [] C f_q_make_224_2 rfl ?_
                      refine m_loc [(8, vi x140), (7, vi (u + 1)), (6, vr 1 z5), (0, vr 0 0), (1, vi p), (3, vi b), (5, vi w)] ⟨rfl, rfl, rfl, rfl, rfl, rfl, rfl, trivial⟩ ?_
                      exact ih22 (mu (mu (mu A127 0 0 33 (u + 1)) 0 0 35 z134) 0 0 34 0) x140 t138 q139 (((hO_n129.muf (by decide) (by decide)).muf (by decide) (by decide)).muf (by decide) (by decide)) (by show a ≤ x140 ∧ x140 ≤ 16; omega) (by show (u + 1) = u + 1; omega) (((ms_n129.muf (by decide)).muf (by decide)).muf (by decide)) (by show (40 - x140) < _; omega)
                    · refine m_blk 212 [(10, vi 0), (9, vi z20), (8, vi i), (7, vi (u + 1)), (6, vr 1 z5), (0, vr 0 0), (1, vi p), (3, vi b), (5, vi w)] [vi 1, vr 0 0] C f_q_make_207_2 rfl ?_
                      refine m_putz C e_q_make_212 fp_Mo_297 rfl (by decide) rfl (Or.inr rfl) ?_
                      have t141 : mTy (mu (mu (mu A127 0 0 33 (u + 1)) 0 0 35 z134) 0 0 34 1) := t135.mu (by show 0 ≤ 1 ∧ 1 ≤ 1; omega)
                      have q142 := q136.mu (f := 0) (k := 0) (j := 34) (z := 1) (by simp [rm])
                      have K3 := hK.rmk hF_n129
                      have hs3 := K3.at (i := i) (by omega) (by omega)
                      have he3 := hs3.en
                      refine m_blk 216 [(10, vi 0), (9, vi z20), (8, vi i), (7, vi (u + 1)), (6, vr 1 z5), (0, vr 0 0), (1, vi p), (3, vi b), (5, vi w)] [vr 0 0] C f_q_make_215_1 rfl ?_
                      refine m_getr C e_q_make_216 fg_Mo_30 rfl (by decide) rfl ?_
                      refine m_blk 220 [(10, vi 0), (9, vi z20), (8, vi i), (7, vi (u + 1)), (6, vr 1 z5), (0, vr 0 0), (1, vi p), (3, vi b), (5, vi w)] [vi p, vr 17 0] C f_q_make_219_1 rfl ?_
                      refine m_aald C p.toNat e_q_make_220 rfl rfl rfl (by decide) (by decide) (by omega) (by show p < ((6 : Nat) : Int); omega) (mz _ _) ?_
                      refine m_blk 223 [(10, vi 0), (9, vi z20), (8, vi i), (7, vi (u + 1)), (6, vr 1 z5), (0, vr 0 0), (1, vi p), (3, vi b), (5, vi w)] [vi i, vr 37 p.toNat] C f_q_make_221_1 rfl ?_
                      obtain ⟨x143, hx143⟩ : ∃ x, A127 37 p.toNat i.toNat = x := ⟨_, rfl⟩
                      have rx143 : 0 ≤ x143 ∧ x143 ≤ 16 := mrg hT_n129 hx143 rfl
                      refine m_iald C e_q_make_223 rfl (by omega) (by decide) (by omega) (by show i < ((16 : Nat) : Int); omega) x143 hx143 ?_
                      refine m_blk 22 [(8, vi x143), (10, vi 0), (9, vi z20), (7, vi (u + 1)), (6, vr 1 z5), (0, vr 0 0), (1, vi p), (3, vi b), (5, vi w)] [] C f_q_make_224_2 rfl ?_
                      refine m_loc [(8, vi x143), (7, vi (u + 1)), (6, vr 1 z5), (0, vr 0 0), (1, vi p), (3, vi b), (5, vi w)] ⟨rfl, rfl, rfl, rfl, rfl, rfl, rfl, trivial⟩ ?_
                      exact ih22 (mu (mu (mu A127 0 0 33 (u + 1)) 0 0 35 z134) 0 0 34 1) x143 t141 q142 (((hO_n129.muf (by decide) (by decide)).muf (by decide) (by decide)).muf (by decide) (by decide)) (by show a ≤ x143 ∧ x143 ≤ 16; omega) (by show (u + 1) = u + 1; omega) (((ms_n129.muf (by decide)).muf (by decide)).muf (by decide)) (by show (40 - x143) < _; omega)
                  · refine m_blk 153 [(10, vi 0), (9, vi z20), (8, vi i), (7, vi (u + 1)), (6, vr 1 z5), (0, vr 0 0), (1, vi p), (3, vi b), (5, vi w)] [vr 1 z5] C f_q_make_151_1 rfl ?_
                    exact m_aret C Rm E e_q_make_153 ⟨z5, rfl, hT_n116, hF_n116, (by show (z5 : Int) = u; omega), (by show u + 1 ≤ A114 0 0 33 ∧ A114 0 0 33 ≤ u + 2 + 4 * (5 - d); omega), (fun h9 => by have h8 : A114 0 0 34 = 0 := h9; omega), hO_n116, ms_n116⟩
                · refine m_blk 121 [(9, vi z20), (8, vi i), (7, vi (u + 1)), (6, vr 1 z5), (0, vr 0 0), (1, vi p), (3, vi b), (5, vi w)] [vi 1] C f_q_make_116_2 rfl ?_
                  refine m_blk 125 [(10, vi 1), (9, vi z20), (8, vi i), (7, vi (u + 1)), (6, vr 1 z5), (0, vr 0 0), (1, vi p), (3, vi b), (5, vi w)] [vi 1] C f_q_make_121_2 rfl ?_
                  refine m_if_ne (tgt := 144) C e_q_make_125 (by decide) (by decide) (fun c144 => ?_) (fun c144 => (by omega : False).elim)
                  refine m_blk 145 [(10, vi 1), (9, vi z20), (8, vi i), (7, vi (u + 1)), (6, vr 1 z5), (0, vr 0 0), (1, vi p), (3, vi b), (5, vi w)] [vr 0 0] C f_q_make_144_1 rfl ?_
                  refine m_geti C e_q_make_145 fg_Mo_297 rfl (by decide) rfl x12 hx12 ?_
                  refine m_if_eq (tgt := 154) C e_q_make_148 (by decide) (by omega) (fun c145 => ?_) (fun c145 => ?_)
                  · refine m_blk 157 [(10, vi 1), (9, vi z20), (8, vi i), (7, vi (u + 1)), (6, vr 1 z5), (0, vr 0 0), (1, vi p), (3, vi b), (5, vi w)] [vi (-1), vi w] C f_q_make_154_2 rfl ?_
                    refine m_icmp_eq (tgt := 173) C e_q_make_157 (by decide) (by omega) (by decide) (fun c146 => (by omega : False).elim) (fun c146 => ?_)
                    refine m_blk 167 [(10, vi 1), (9, vi z20), (8, vi i), (7, vi (u + 1)), (6, vr 1 z5), (0, vr 0 0), (1, vi p), (3, vi b), (5, vi w)] [vi z20, vr 1 z5, vr 0 0, vr 1 z5] C f_q_make_160_4 rfl ?_
                    refine m_callV C Rm Y [vr 1 z5, vi z20] [vr 1 z5] (q_forget l D B H0 ad _ hT2 (u + 1) T z5 z20 (by show A2 0 0 33 = (u + 1) ∧ 0 ≤ (u + 1) ∧ (u + 1) ≤ 199; omega) (by show (z5 : Int) < (u + 1); omega) hO2 (by show 0 ≤ T ∧ T ≤ 1125899906842624; omega) (by show -2147483648 ≤ z20 ∧ z20 ≤ 2147483647; omega)) cl_Mo_310 rfl (by decide) rfl rfl e_q_make_167 rfl rfl rfl ⟨by show _ ≤ (200 + 6 * n : Nat); omega, by show _ ≤ (5500 + 150 * n : Nat); omega⟩ ?_
                    rintro v147 A148 ⟨z151, rfl, hT_n150, hE_n150, raw_hz_n150, raw_hu_n150, raw_hO_n150⟩
                    have hF_n150 := hE2.trans (hE_n150.sub (dm_rm (by omega)))
                    have hz_n150 : (z151 : Int) = (u + 1) := raw_hz_n150
                    clear raw_hz_n150
                    have hu_n150 : A148 0 0 33 = (u + 1) + 1 := raw_hu_n150
                    clear raw_hu_n150
                    have hO_n150 : oG A148 z151 T := raw_hO_n150
                    clear raw_hO_n150
                    show JM g D ad w0 A148 170 [(10, vi 1), (9, vi z20), (8, vi i), (7, vi (u + 1)), (6, vr 1 z5), (0, vr 0 0), (1, vi p), (3, vi b), (5, vi w)] [vr 1 z151, vr 1 z5]
                    have ms_n150 : mS A148 := hS2.dmk hE_n150
                    refine m_callV C Rm Y [vr 1 z151] [] (q_becomes l D B H0 ad _ hT_n150 z5 T z151 (by show z5 < 200 ∧ z151 < 200; omega) hO_n150) cl_Mo_293 rfl (by omega) rfl rfl e_q_make_170 rfl rfl rfl ⟨by show _ ≤ (200 + 6 * n : Nat); omega, by show _ ≤ (5500 + 150 * n : Nat); omega⟩ ?_
                    rintro v152 A153 ⟨rfl, hT_n155, hE_n155, raw_hO_n155⟩
                    have hF_n155 := hF_n150.trans (hE_n155.sub (cm_rm (by omega)))
                    have hO_n155 : oG A153 z5 T := raw_hO_n155
                    clear raw_hO_n155
                    show JM g D ad w0 A153 173 [(10, vi 1), (9, vi z20), (8, vi i), (7, vi (u + 1)), (6, vr 1 z5), (0, vr 0 0), (1, vi p), (3, vi b), (5, vi w)] []
                    have ms_n155 : mS A153 := ms_n150.cmk hE_n155
                    refine m_blk 176 [(10, vi 1), (9, vi z20), (8, vi i), (7, vi (u + 1)), (6, vr 1 z5), (0, vr 0 0), (1, vi p), (3, vi b), (5, vi w)] [vi (u + 1), vr 0 0] C f_q_make_173_2 rfl ?_
                    refine m_puti C e_q_make_176 fp_Mo_269 rfl (by decide) rfl ?_
                    have t156 : mTy (mu A153 0 0 33 (u + 1)) := hT_n155.mu (by show 0 ≤ (u + 1) ∧ (u + 1) ≤ 200; omega)
                    have q157 := hF_n155.mu (f := 0) (k := 0) (j := 33) (z := (u + 1)) (by simp [rm])
                    refine m_blk 181 [(10, vi 1), (9, vi z20), (8, vi i), (7, vi (u + 1)), (6, vr 1 z5), (0, vr 0 0), (1, vi p), (3, vi b), (5, vi w)] [vr 0 0, vr 0 0] C f_q_make_179_2 rfl ?_
                    obtain ⟨x158, hx158⟩ : ∃ x, A153 0 0 35 = x := ⟨_, rfl⟩
                    have rx158 : (-2147483648) ≤ x158 ∧ x158 ≤ 2147483647 := mrg hT_n155 hx158 rfl
                    refine m_geti C e_q_make_181 fg_Mo_314 rfl (by decide) rfl x158 hx158 ?_
                    refine m_blk 186 [(10, vi 1), (9, vi z20), (8, vi i), (7, vi (u + 1)), (6, vr 1 z5), (0, vr 0 0), (1, vi p), (3, vi b), (5, vi w)] [vr 1 z5, vi x158, vr 0 0] C f_q_make_184_1 rfl ?_
                    obtain ⟨x159, hx159⟩ : ∃ x, A153 1 z5 2 = x := ⟨_, rfl⟩
                    have rx159 : 0 ≤ x159 ∧ x159 ≤ 301 := mrg hT_n155 hx159 rfl
                    refine m_getiN C e_q_make_186 fg_Mo_272 rfl (by omega) rfl x159 hx159 ?_
                    refine m_mmax C Rm cl_Mo_243 e_q_make_189 (by show 1 ≤ (200 + 6 * n : Nat); omega) (by show 1 + 13 ≤ (5500 + 150 * n : Nat); omega) (by omega) (by omega) (fun z160 hz160 => ?_)
                    refine m_puti C e_q_make_192 fp_Mo_314 rfl (by decide) rfl ?_
                    have t161 : mTy (mu (mu A153 0 0 33 (u + 1)) 0 0 35 z160) := t156.mu (by show (-2147483648) ≤ z160 ∧ z160 ≤ 2147483647; omega)
                    have q162 := q157.mu (f := 0) (k := 0) (j := 35) (z := z160) (by simp [rm])
                    refine m_blk 198 [(10, vi 1), (9, vi z20), (8, vi i), (7, vi (u + 1)), (6, vr 1 z5), (0, vr 0 0), (1, vi p), (3, vi b), (5, vi w)] [vr 1 z5, vr 0 0] C f_q_make_195_2 rfl ?_
                    refine m_getiN C e_q_make_198 fg_Mo_272 rfl (by omega) rfl x159 hx159 ?_
                    refine m_blk 204 [(10, vi 1), (9, vi z20), (8, vi i), (7, vi (u + 1)), (6, vr 1 z5), (0, vr 0 0), (1, vi p), (3, vi b), (5, vi w)] [vi 300, vi x159, vr 0 0] C f_q_make_201_1 rfl ?_
                    refine m_icmp_le (tgt := 211) C e_q_make_204 (by decide) (by omega) (by decide) (fun c163 => ?_) (fun c163 => ?_)
                    · refine m_blk 212 [(10, vi 1), (9, vi z20), (8, vi i), (7, vi (u + 1)), (6, vr 1 z5), (0, vr 0 0), (1, vi p), (3, vi b), (5, vi w)] [vi 0, vr 0 0] C f_q_make_211_1 rfl ?_
                      refine m_putz C e_q_make_212 fp_Mo_297 rfl (by decide) rfl (Or.inl rfl) ?_
                      have t164 : mTy (mu (mu (mu A153 0 0 33 (u + 1)) 0 0 35 z160) 0 0 34 0) := t161.mu (by show 0 ≤ 0 ∧ 0 ≤ 1; omega)
                      have q165 := q162.mu (f := 0) (k := 0) (j := 34) (z := 0) (by simp [rm])
                      have K3 := hK.rmk hF_n155
                      have hs3 := K3.at (i := i) (by omega) (by omega)
                      have he3 := hs3.en
                      refine m_blk 216 [(10, vi 1), (9, vi z20), (8, vi i), (7, vi (u + 1)), (6, vr 1 z5), (0, vr 0 0), (1, vi p), (3, vi b), (5, vi w)] [vr 0 0] C f_q_make_215_1 rfl ?_
                      refine m_getr C e_q_make_216 fg_Mo_30 rfl (by decide) rfl ?_
                      refine m_blk 220 [(10, vi 1), (9, vi z20), (8, vi i), (7, vi (u + 1)), (6, vr 1 z5), (0, vr 0 0), (1, vi p), (3, vi b), (5, vi w)] [vi p, vr 17 0] C f_q_make_219_1 rfl ?_
                      refine m_aald C p.toNat e_q_make_220 rfl rfl rfl (by decide) (by decide) (by omega) (by show p < ((6 : Nat) : Int); omega) (mz _ _) ?_
                      refine m_blk 223 [(10, vi 1), (9, vi z20), (8, vi i), (7, vi (u + 1)), (6, vr 1 z5), (0, vr 0 0), (1, vi p), (3, vi b), (5, vi w)] [vi i, vr 37 p.toNat] C f_q_make_221_1 rfl ?_
                      obtain ⟨x166, hx166⟩ : ∃ x, A153 37 p.toNat i.toNat = x := ⟨_, rfl⟩
                      have rx166 : 0 ≤ x166 ∧ x166 ≤ 16 := mrg hT_n155 hx166 rfl
                      refine m_iald C e_q_make_223 rfl (by omega) (by decide) (by omega) (by show i < ((16 : Nat) : Int); omega) x166 hx166 ?_
                      refine m_blk 22 [(8, vi x166), (10, vi 1), (9, vi z20), (7, vi (u + 1)), (6, vr 1 z5), (0, vr 0 0), (1, vi p), (3, vi b), (5, vi w)] [] C f_q_make_224_2 rfl ?_
                      refine m_loc [(8, vi x166), (7, vi (u + 1)), (6, vr 1 z5), (0, vr 0 0), (1, vi p), (3, vi b), (5, vi w)] ⟨rfl, rfl, rfl, rfl, rfl, rfl, rfl, trivial⟩ ?_
                      exact ih22 (mu (mu (mu A153 0 0 33 (u + 1)) 0 0 35 z160) 0 0 34 0) x166 t164 q165 (((hO_n155.muf (by decide) (by decide)).muf (by decide) (by decide)).muf (by decide) (by decide)) (by show a ≤ x166 ∧ x166 ≤ 16; omega) (by show (u + 1) = u + 1; omega) (((ms_n155.muf (by decide)).muf (by decide)).muf (by decide)) (by show (40 - x166) < _; omega)
                    · refine m_blk 212 [(10, vi 1), (9, vi z20), (8, vi i), (7, vi (u + 1)), (6, vr 1 z5), (0, vr 0 0), (1, vi p), (3, vi b), (5, vi w)] [vi 1, vr 0 0] C f_q_make_207_2 rfl ?_
                      refine m_putz C e_q_make_212 fp_Mo_297 rfl (by decide) rfl (Or.inr rfl) ?_
                      have t167 : mTy (mu (mu (mu A153 0 0 33 (u + 1)) 0 0 35 z160) 0 0 34 1) := t161.mu (by show 0 ≤ 1 ∧ 1 ≤ 1; omega)
                      have q168 := q162.mu (f := 0) (k := 0) (j := 34) (z := 1) (by simp [rm])
                      have K3 := hK.rmk hF_n155
                      have hs3 := K3.at (i := i) (by omega) (by omega)
                      have he3 := hs3.en
                      refine m_blk 216 [(10, vi 1), (9, vi z20), (8, vi i), (7, vi (u + 1)), (6, vr 1 z5), (0, vr 0 0), (1, vi p), (3, vi b), (5, vi w)] [vr 0 0] C f_q_make_215_1 rfl ?_
                      refine m_getr C e_q_make_216 fg_Mo_30 rfl (by decide) rfl ?_
                      refine m_blk 220 [(10, vi 1), (9, vi z20), (8, vi i), (7, vi (u + 1)), (6, vr 1 z5), (0, vr 0 0), (1, vi p), (3, vi b), (5, vi w)] [vi p, vr 17 0] C f_q_make_219_1 rfl ?_
                      refine m_aald C p.toNat e_q_make_220 rfl rfl rfl (by decide) (by decide) (by omega) (by show p < ((6 : Nat) : Int); omega) (mz _ _) ?_
                      refine m_blk 223 [(10, vi 1), (9, vi z20), (8, vi i), (7, vi (u + 1)), (6, vr 1 z5), (0, vr 0 0), (1, vi p), (3, vi b), (5, vi w)] [vi i, vr 37 p.toNat] C f_q_make_221_1 rfl ?_
                      obtain ⟨x169, hx169⟩ : ∃ x, A153 37 p.toNat i.toNat = x := ⟨_, rfl⟩
                      have rx169 : 0 ≤ x169 ∧ x169 ≤ 16 := mrg hT_n155 hx169 rfl
                      refine m_iald C e_q_make_223 rfl (by omega) (by decide) (by omega) (by show i < ((16 : Nat) : Int); omega) x169 hx169 ?_
                      refine m_blk 22 [(8, vi x169), (10, vi 1), (9, vi z20), (7, vi (u + 1)), (6, vr 1 z5), (0, vr 0 0), (1, vi p), (3, vi b), (5, vi w)] [] C f_q_make_224_2 rfl ?_
                      refine m_loc [(8, vi x169), (7, vi (u + 1)), (6, vr 1 z5), (0, vr 0 0), (1, vi p), (3, vi b), (5, vi w)] ⟨rfl, rfl, rfl, rfl, rfl, rfl, rfl, trivial⟩ ?_
                      exact ih22 (mu (mu (mu A153 0 0 33 (u + 1)) 0 0 35 z160) 0 0 34 1) x169 t167 q168 (((hO_n155.muf (by decide) (by decide)).muf (by decide) (by decide)).muf (by decide) (by decide)) (by show a ≤ x169 ∧ x169 ≤ 16; omega) (by show (u + 1) = u + 1; omega) (((ms_n155.muf (by decide)).muf (by decide)).muf (by decide)) (by show (40 - x169) < _; omega)
                  · refine m_blk 153 [(10, vi 1), (9, vi z20), (8, vi i), (7, vi (u + 1)), (6, vr 1 z5), (0, vr 0 0), (1, vi p), (3, vi b), (5, vi w)] [vr 1 z5] C f_q_make_151_1 rfl ?_
                    exact m_aret C Rm E e_q_make_153 ⟨z5, rfl, hT2, hE2, (by show (z5 : Int) = u; omega), (by show u + 1 ≤ A2 0 0 33 ∧ A2 0 0 33 ≤ u + 2 + 4 * (5 - d); omega), (fun h9 => by have h8 : A2 0 0 34 = 0 := h9; omega), hO2, hS2⟩
          · refine m_blk 62 [(8, vi i), (7, vi (u + 1)), (6, vr 1 z5), (0, vr 0 0), (1, vi p), (3, vi b), (5, vi w)] [vi (-1)] C f_q_make_41_2 rfl ?_
            refine m_blk 67 [(9, vi (-1)), (8, vi i), (7, vi (u + 1)), (6, vr 1 z5), (0, vr 0 0), (1, vi p), (3, vi b), (5, vi w)] [vi (-1), vi w] C f_q_make_62_3 rfl ?_
            refine m_icmp_eq (tgt := 120) C e_q_make_67 (by decide) (by omega) (by decide) (fun c170 => ?_) (fun c170 => (by omega : False).elim)
            refine m_blk 125 [(10, vi 0), (9, vi (-1)), (8, vi i), (7, vi (u + 1)), (6, vr 1 z5), (0, vr 0 0), (1, vi p), (3, vi b), (5, vi w)] [vi 0] C f_q_make_120_3 rfl ?_
            refine m_if_ne (tgt := 144) C e_q_make_125 (by decide) (by decide) (fun c171 => (by omega : False).elim) (fun c171 => ?_)
            refine m_blk 138 [(10, vi 0), (9, vi (-1)), (8, vi i), (7, vi (u + 1)), (6, vr 1 z5), (0, vr 0 0), (1, vi p), (3, vi b), (5, vi w)] [vi (-1), vr 1 z5, vi i, vi p, vr 0 0, vr 1 z5] C f_q_make_128_6 rfl ?_
            refine m_callV C Rm Y [vi p, vi i, vr 1 z5, vi (-1)] [vr 1 z5] ((hrec n1 hn1) l D B H0 ad _ hT2 (u + 1) T N M Ln dep p i z5 (-1) (by show 0 ≤ p ∧ p ≤ 5; omega) (hK.rmk hE2) (ha.rmk hE2) (by show 0 ≤ i ∧ i < N ∧ 20 * p + 16 - i ≤ (n1 : Int); omega) (by show A2 0 0 33 = (u + 1) ∧ 0 ≤ (u + 1) ∧ (u + 1) + (19 * p + 22 - 4 * dep i.toNat) ≤ 200; omega) (by show (z5 : Int) < (u + 1); omega) hO2 (by show 0 ≤ T ∧ T ≤ 1125899906842624; omega) (by show -2147483648 ≤ (-1) ∧ (-1) ≤ 2147483647; omega) hS2) cl_Mo_306 rfl (by decide) rfl rfl e_q_make_138 rfl rfl rfl ⟨by show _ ≤ (200 + 6 * n : Nat); omega, by show _ ≤ (5500 + 150 * n : Nat); omega⟩ ?_
            rintro v172 A173 ⟨z176, rfl, hT_n175, hE_n175, raw_hz_n175, raw_hu_n175, raw_hO_n175, raw_hS_n175⟩
            have hF_n175 := hE2.trans (hE_n175.sub (rm_rm (by omega)))
            have hz_n175 : (u + 1) ≤ (z176 : Int) ∧ (z176 : Int) < A173 0 0 33 := raw_hz_n175
            clear raw_hz_n175
            have hu_n175 : (u + 1) + 1 ≤ A173 0 0 33 ∧ A173 0 0 33 ≤ (u + 1) + 1 + 4 * (5 - dep i.toNat) := raw_hu_n175
            clear raw_hu_n175
            have hO_n175 : oG A173 z176 T := raw_hO_n175
            clear raw_hO_n175
            have hS_n175 : mS A173 := raw_hS_n175
            clear raw_hS_n175
            show JM g D ad w0 A173 141 [(10, vi 0), (9, vi (-1)), (8, vi i), (7, vi (u + 1)), (6, vr 1 z5), (0, vr 0 0), (1, vi p), (3, vi b), (5, vi w)] [vr 1 z176, vr 1 z5]
            refine m_callV C Rm Y [vr 1 z176] [] (q_becomes l D B H0 ad _ hT_n175 z5 T z176 (by show z5 < 200 ∧ z176 < 200; omega) hO_n175) cl_Mo_293 rfl (by omega) rfl rfl e_q_make_141 rfl rfl rfl ⟨by show _ ≤ (200 + 6 * n : Nat); omega, by show _ ≤ (5500 + 150 * n : Nat); omega⟩ ?_
            rintro v177 A178 ⟨rfl, hT_n180, hE_n180, raw_hO_n180⟩
            have hF_n180 := hF_n175.trans (hE_n180.sub (cm_rm (by omega)))
            have hO_n180 : oG A178 z5 T := raw_hO_n180
            clear raw_hO_n180
            show JM g D ad w0 A178 144 [(10, vi 0), (9, vi (-1)), (8, vi i), (7, vi (u + 1)), (6, vr 1 z5), (0, vr 0 0), (1, vi p), (3, vi b), (5, vi w)] []
            have ms_n180 : mS A178 := hS_n175.cmk hE_n180
            have ku_n180 : A178 0 0 33 = A173 0 0 33 := hE_n180 0 0 33 rfl
            refine m_blk 145 [(10, vi 0), (9, vi (-1)), (8, vi i), (7, vi (u + 1)), (6, vr 1 z5), (0, vr 0 0), (1, vi p), (3, vi b), (5, vi w)] [vr 0 0] C f_q_make_144_1 rfl ?_
            obtain ⟨x181, hx181⟩ : ∃ x, A178 0 0 34 = x := ⟨_, rfl⟩
            have rx181 : 0 ≤ x181 ∧ x181 ≤ 1 := mrg hT_n180 hx181 rfl
            refine m_geti C e_q_make_145 fg_Mo_297 rfl (by decide) rfl x181 hx181 ?_
            refine m_if_eq (tgt := 154) C e_q_make_148 (by decide) (by omega) (fun c182 => ?_) (fun c182 => ?_)
            · refine m_blk 157 [(10, vi 0), (9, vi (-1)), (8, vi i), (7, vi (u + 1)), (6, vr 1 z5), (0, vr 0 0), (1, vi p), (3, vi b), (5, vi w)] [vi (-1), vi w] C f_q_make_154_2 rfl ?_
              refine m_icmp_eq (tgt := 173) C e_q_make_157 (by decide) (by omega) (by decide) (fun c183 => ?_) (fun c183 => (by omega : False).elim)
              refine m_blk 176 [(10, vi 0), (9, vi (-1)), (8, vi i), (7, vi (u + 1)), (6, vr 1 z5), (0, vr 0 0), (1, vi p), (3, vi b), (5, vi w)] [vi (u + 1), vr 0 0] C f_q_make_173_2 rfl ?_
              refine m_puti C e_q_make_176 fp_Mo_269 rfl (by decide) rfl ?_
              have t184 : mTy (mu A178 0 0 33 (u + 1)) := hT_n180.mu (by show 0 ≤ (u + 1) ∧ (u + 1) ≤ 200; omega)
              have q185 := hF_n180.mu (f := 0) (k := 0) (j := 33) (z := (u + 1)) (by simp [rm])
              refine m_blk 181 [(10, vi 0), (9, vi (-1)), (8, vi i), (7, vi (u + 1)), (6, vr 1 z5), (0, vr 0 0), (1, vi p), (3, vi b), (5, vi w)] [vr 0 0, vr 0 0] C f_q_make_179_2 rfl ?_
              obtain ⟨x186, hx186⟩ : ∃ x, A178 0 0 35 = x := ⟨_, rfl⟩
              have rx186 : (-2147483648) ≤ x186 ∧ x186 ≤ 2147483647 := mrg hT_n180 hx186 rfl
              refine m_geti C e_q_make_181 fg_Mo_314 rfl (by decide) rfl x186 hx186 ?_
              refine m_blk 186 [(10, vi 0), (9, vi (-1)), (8, vi i), (7, vi (u + 1)), (6, vr 1 z5), (0, vr 0 0), (1, vi p), (3, vi b), (5, vi w)] [vr 1 z5, vi x186, vr 0 0] C f_q_make_184_1 rfl ?_
              obtain ⟨x187, hx187⟩ : ∃ x, A178 1 z5 2 = x := ⟨_, rfl⟩
              have rx187 : 0 ≤ x187 ∧ x187 ≤ 301 := mrg hT_n180 hx187 rfl
              refine m_getiN C e_q_make_186 fg_Mo_272 rfl (by omega) rfl x187 hx187 ?_
              refine m_mmax C Rm cl_Mo_243 e_q_make_189 (by show 1 ≤ (200 + 6 * n : Nat); omega) (by show 1 + 13 ≤ (5500 + 150 * n : Nat); omega) (by omega) (by omega) (fun z188 hz188 => ?_)
              refine m_puti C e_q_make_192 fp_Mo_314 rfl (by decide) rfl ?_
              have t189 : mTy (mu (mu A178 0 0 33 (u + 1)) 0 0 35 z188) := t184.mu (by show (-2147483648) ≤ z188 ∧ z188 ≤ 2147483647; omega)
              have q190 := q185.mu (f := 0) (k := 0) (j := 35) (z := z188) (by simp [rm])
              refine m_blk 198 [(10, vi 0), (9, vi (-1)), (8, vi i), (7, vi (u + 1)), (6, vr 1 z5), (0, vr 0 0), (1, vi p), (3, vi b), (5, vi w)] [vr 1 z5, vr 0 0] C f_q_make_195_2 rfl ?_
              refine m_getiN C e_q_make_198 fg_Mo_272 rfl (by omega) rfl x187 hx187 ?_
              refine m_blk 204 [(10, vi 0), (9, vi (-1)), (8, vi i), (7, vi (u + 1)), (6, vr 1 z5), (0, vr 0 0), (1, vi p), (3, vi b), (5, vi w)] [vi 300, vi x187, vr 0 0] C f_q_make_201_1 rfl ?_
              refine m_icmp_le (tgt := 211) C e_q_make_204 (by decide) (by omega) (by decide) (fun c191 => ?_) (fun c191 => ?_)
              · refine m_blk 212 [(10, vi 0), (9, vi (-1)), (8, vi i), (7, vi (u + 1)), (6, vr 1 z5), (0, vr 0 0), (1, vi p), (3, vi b), (5, vi w)] [vi 0, vr 0 0] C f_q_make_211_1 rfl ?_
                refine m_putz C e_q_make_212 fp_Mo_297 rfl (by decide) rfl (Or.inl rfl) ?_
                have t192 : mTy (mu (mu (mu A178 0 0 33 (u + 1)) 0 0 35 z188) 0 0 34 0) := t189.mu (by show 0 ≤ 0 ∧ 0 ≤ 1; omega)
                have q193 := q190.mu (f := 0) (k := 0) (j := 34) (z := 0) (by simp [rm])
                have K3 := hK.rmk hF_n180
                have hs3 := K3.at (i := i) (by omega) (by omega)
                have he3 := hs3.en
                refine m_blk 216 [(10, vi 0), (9, vi (-1)), (8, vi i), (7, vi (u + 1)), (6, vr 1 z5), (0, vr 0 0), (1, vi p), (3, vi b), (5, vi w)] [vr 0 0] C f_q_make_215_1 rfl ?_
                refine m_getr C e_q_make_216 fg_Mo_30 rfl (by decide) rfl ?_
                refine m_blk 220 [(10, vi 0), (9, vi (-1)), (8, vi i), (7, vi (u + 1)), (6, vr 1 z5), (0, vr 0 0), (1, vi p), (3, vi b), (5, vi w)] [vi p, vr 17 0] C f_q_make_219_1 rfl ?_
                refine m_aald C p.toNat e_q_make_220 rfl rfl rfl (by decide) (by decide) (by omega) (by show p < ((6 : Nat) : Int); omega) (mz _ _) ?_
                refine m_blk 223 [(10, vi 0), (9, vi (-1)), (8, vi i), (7, vi (u + 1)), (6, vr 1 z5), (0, vr 0 0), (1, vi p), (3, vi b), (5, vi w)] [vi i, vr 37 p.toNat] C f_q_make_221_1 rfl ?_
                obtain ⟨x194, hx194⟩ : ∃ x, A178 37 p.toNat i.toNat = x := ⟨_, rfl⟩
                have rx194 : 0 ≤ x194 ∧ x194 ≤ 16 := mrg hT_n180 hx194 rfl
                refine m_iald C e_q_make_223 rfl (by omega) (by decide) (by omega) (by show i < ((16 : Nat) : Int); omega) x194 hx194 ?_
                refine m_blk 22 [(8, vi x194), (10, vi 0), (9, vi (-1)), (7, vi (u + 1)), (6, vr 1 z5), (0, vr 0 0), (1, vi p), (3, vi b), (5, vi w)] [] C f_q_make_224_2 rfl ?_
                refine m_loc [(8, vi x194), (7, vi (u + 1)), (6, vr 1 z5), (0, vr 0 0), (1, vi p), (3, vi b), (5, vi w)] ⟨rfl, rfl, rfl, rfl, rfl, rfl, rfl, trivial⟩ ?_
                exact ih22 (mu (mu (mu A178 0 0 33 (u + 1)) 0 0 35 z188) 0 0 34 0) x194 t192 q193 (((hO_n180.muf (by decide) (by decide)).muf (by decide) (by decide)).muf (by decide) (by decide)) (by show a ≤ x194 ∧ x194 ≤ 16; omega) (by show (u + 1) = u + 1; omega) (((ms_n180.muf (by decide)).muf (by decide)).muf (by decide)) (by show (40 - x194) < _; omega)
              · refine m_blk 212 [(10, vi 0), (9, vi (-1)), (8, vi i), (7, vi (u + 1)), (6, vr 1 z5), (0, vr 0 0), (1, vi p), (3, vi b), (5, vi w)] [vi 1, vr 0 0] C f_q_make_207_2 rfl ?_
                refine m_putz C e_q_make_212 fp_Mo_297 rfl (by decide) rfl (Or.inr rfl) ?_
                have t195 : mTy (mu (mu (mu A178 0 0 33 (u + 1)) 0 0 35 z188) 0 0 34 1) := t189.mu (by show 0 ≤ 1 ∧ 1 ≤ 1; omega)
                have q196 := q190.mu (f := 0) (k := 0) (j := 34) (z := 1) (by simp [rm])
                have K3 := hK.rmk hF_n180
                have hs3 := K3.at (i := i) (by omega) (by omega)
                have he3 := hs3.en
                refine m_blk 216 [(10, vi 0), (9, vi (-1)), (8, vi i), (7, vi (u + 1)), (6, vr 1 z5), (0, vr 0 0), (1, vi p), (3, vi b), (5, vi w)] [vr 0 0] C f_q_make_215_1 rfl ?_
                refine m_getr C e_q_make_216 fg_Mo_30 rfl (by decide) rfl ?_
                refine m_blk 220 [(10, vi 0), (9, vi (-1)), (8, vi i), (7, vi (u + 1)), (6, vr 1 z5), (0, vr 0 0), (1, vi p), (3, vi b), (5, vi w)] [vi p, vr 17 0] C f_q_make_219_1 rfl ?_
                refine m_aald C p.toNat e_q_make_220 rfl rfl rfl (by decide) (by decide) (by omega) (by show p < ((6 : Nat) : Int); omega) (mz _ _) ?_
                refine m_blk 223 [(10, vi 0), (9, vi (-1)), (8, vi i), (7, vi (u + 1)), (6, vr 1 z5), (0, vr 0 0), (1, vi p), (3, vi b), (5, vi w)] [vi i, vr 37 p.toNat] C f_q_make_221_1 rfl ?_
                obtain ⟨x197, hx197⟩ : ∃ x, A178 37 p.toNat i.toNat = x := ⟨_, rfl⟩
                have rx197 : 0 ≤ x197 ∧ x197 ≤ 16 := mrg hT_n180 hx197 rfl
                refine m_iald C e_q_make_223 rfl (by omega) (by decide) (by omega) (by show i < ((16 : Nat) : Int); omega) x197 hx197 ?_
                refine m_blk 22 [(8, vi x197), (10, vi 0), (9, vi (-1)), (7, vi (u + 1)), (6, vr 1 z5), (0, vr 0 0), (1, vi p), (3, vi b), (5, vi w)] [] C f_q_make_224_2 rfl ?_
                refine m_loc [(8, vi x197), (7, vi (u + 1)), (6, vr 1 z5), (0, vr 0 0), (1, vi p), (3, vi b), (5, vi w)] ⟨rfl, rfl, rfl, rfl, rfl, rfl, rfl, trivial⟩ ?_
                exact ih22 (mu (mu (mu A178 0 0 33 (u + 1)) 0 0 35 z188) 0 0 34 1) x197 t195 q196 (((hO_n180.muf (by decide) (by decide)).muf (by decide) (by decide)).muf (by decide) (by decide)) (by show a ≤ x197 ∧ x197 ≤ 16; omega) (by show (u + 1) = u + 1; omega) (((ms_n180.muf (by decide)).muf (by decide)).muf (by decide)) (by show (40 - x197) < _; omega)
            · refine m_blk 153 [(10, vi 0), (9, vi (-1)), (8, vi i), (7, vi (u + 1)), (6, vr 1 z5), (0, vr 0 0), (1, vi p), (3, vi b), (5, vi w)] [vr 1 z5] C f_q_make_151_1 rfl ?_
              exact m_aret C Rm E e_q_make_153 ⟨z5, rfl, hT_n180, hF_n180, (by show (z5 : Int) = u; omega), (by show u + 1 ≤ A178 0 0 33 ∧ A178 0 0 33 ≤ u + 2 + 4 * (5 - d); omega), (fun h9 => by have h8 : A178 0 0 34 = 0 := h9; omega), hO_n180, ms_n180⟩
  refine m_loc [(8, vi a), (7, vi (u + 1)), (6, vr 1 z5), (0, vr 0 0), (1, vi p), (3, vi b), (5, vi w)] ⟨rfl, rfl, rfl, rfl, rfl, rfl, rfl, trivial⟩ ?_
  exact hd_22 (Int.toNat ((40 - a)) + 1) A8 a hT_n10 hF_n10 hO_n10 (by show a ≤ a ∧ a ≤ 16; omega) (by show A8 0 0 33 = u + 1; omega) ms_n10 (by show (40 - a) < _; omega)
