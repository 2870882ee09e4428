/-! the reference: formulas (own work, by program) -/
def pm (P f k j : Nat) : Bool := (f == 0 && (Nat.ble 23 j && Nat.ble j 31)) || (Nat.ble 34 f && (Nat.ble f 46 && k == P))
def nd (P f k j : Nat) : Bool := (f == 0 && j == 30) || (Nat.ble 43 f && (Nat.ble f 46 && k == P))
def em (P f k j : Nat) : Bool := (f == 0 && (j == 23 || (j == 24 || (j == 25 || (j == 26 || (j == 27 || (j == 30 || j == 31))))))) || (Nat.ble 43 f && (Nat.ble f 46 && k == P))
theorem nm_em (P : Nat) : ∀ f k j, em P f k j = false → nm f k j = false := by
  intro f k j h
  simp only [em, nm, Bool.or_eq_false_iff] at h ⊢
  cases e : f == 0 with
  | false => rfl
  | true =>
    rw [e] at h
    simp_all
theorem nd_em (P : Nat) : ∀ f k j, em P f k j = false → nd P f k j = false := by
  intro f k j h
  simp only [em, nd, Bool.or_eq_false_iff] at h ⊢
  refine ⟨?_, h.2⟩
  cases e : f == 0 with
  | false => rfl
  | true =>
    have := h.1
    rw [e] at this
    simp_all
theorem em_pm (P : Nat) : ∀ f k j, pm P f k j = false → em P f k j = false := by
  intro f k j h
  simp only [em, pm, Bool.or_eq_false_iff] at h ⊢
  obtain ⟨h1, h2⟩ := h
  refine ⟨?_, ?_⟩
  · cases e : f == 0 with
    | false => rfl
    | true =>
      rw [e] at h1
      by_cases hj : 23 ≤ j ∧ j ≤ 31
      · rw [Nat.ble_eq.mpr hj.1, Nat.ble_eq.mpr hj.2] at h1; cases h1
      · simp only [Bool.true_and, Bool.or_eq_false_iff, beq_eq_false_iff_ne]
        omega
  · by_cases hf : 43 ≤ f
    · rw [Nat.ble_eq.mpr (show 34 ≤ f by omega)] at h2
      rw [Nat.ble_eq.mpr hf]
      exact h2
    · cases e : Nat.ble 43 f with
      | true => exact absurd (Nat.ble_eq.mp e) hf
      | false => rfl
theorem nm_pm (P : Nat) : ∀ f k j, pm P f k j = false → nm f k j = false := fun f k j h => nm_em P f k j (em_pm P f k j h)
/-- the nodes of row P are in order -/
def nG (P : Nat) (A : mA) : Prop := ∀ e : Nat, (e : Int) < A 0 0 30 → (-1 ≤ A 45 P e ∧ A 45 P e < e) ∧ (-1 ≤ A 46 P e ∧ A 46 P e < e) ∧ (A 43 P e ≠ 0 → A 43 P e ≠ 1 → 0 ≤ A 45 P e) ∧ (A 43 P e ≠ 0 → A 43 P e ≠ 1 → A 43 P e ≠ 2 → 0 ≤ A 46 P e)
/-- the nodes that were stay -/
def nK (P : Nat) (A A9 : mA) : Prop := ∀ e : Nat, (e : Int) < A 0 0 30 → A9 43 P e = A 43 P e ∧ A9 44 P e = A 44 P e ∧ A9 45 P e = A 45 P e ∧ A9 46 P e = A 46 P e
theorem nK.rfl' {P : Nat} {A : mA} : nK P A A := fun _ _ => ⟨rfl, rfl, rfl, rfl⟩
theorem nK.trans {P : Nat} {A A2 A3 : mA} (h : nK P A A2) (k : nK P A2 A3) (hle : A 0 0 30 ≤ A2 0 0 30) : nK P A A3 := fun e he => by
  obtain ⟨a1, a2, a3, a4⟩ := h e he
  obtain ⟨b1, b2, b3, b4⟩ := k e (by omega)
  exact ⟨b1.trans a1, b2.trans a2, b3.trans a3, b4.trans a4⟩
theorem nG.nm {P : Nat} {A A9 : mA} (h : nG P A) (k : mEq nm A A9) : nG P A9 := fun e he => by
  rw [k 0 0 30 rfl] at he
  rw [k 43 P e rfl, k 45 P e rfl, k 46 P e rfl]
  exact h e he
theorem nK.nm {P : Nat} {A A2 A9 : mA} (h : nK P A A2) (k : mEq nm A2 A9) : nK P A A9 := fun e he => by
  rw [k 43 P e rfl, k 44 P e rfl, k 45 P e rfl, k 46 P e rfl]
  exact h e he
theorem nG_node {P : Nat} {A : mA} (h : nG P A) {n act fig a b : Int} (hn : A 0 0 30 = n) (h0 : 0 ≤ n) (ha : -1 ≤ a ∧ a < n) (hb : -1 ≤ b ∧ b < n) (hc : act ≠ 0 → act ≠ 1 → 0 ≤ a) (hd : act ≠ 0 → act ≠ 1 → act ≠ 2 → 0 ≤ b) : nG P (mu (mu (mu (mu (mu A 43 P n.toNat act) 44 P n.toNat fig) 45 P n.toNat a) 46 P n.toNat b) 0 0 30 (n + 1)) := fun e he => by
  have he2 : (e : Int) < n + 1 := he
  by_cases q : e = n.toNat
  · subst q
    have r1 : mu (mu (mu (mu (mu A 43 P n.toNat act) 44 P n.toNat fig) 45 P n.toNat a) 46 P n.toNat b) 0 0 30 (n + 1) 43 P n.toNat = act := mu_at A 43 P n.toNat act
    have r2 : mu (mu (mu (mu (mu A 43 P n.toNat act) 44 P n.toNat fig) 45 P n.toNat a) 46 P n.toNat b) 0 0 30 (n + 1) 45 P n.toNat = a := mu_at _ 45 P n.toNat a
    have r3 : mu (mu (mu (mu (mu A 43 P n.toNat act) 44 P n.toNat fig) 45 P n.toNat a) 46 P n.toNat b) 0 0 30 (n + 1) 46 P n.toNat = b := mu_at _ 46 P n.toNat b
    rw [r1, r2, r3]
    exact ⟨by omega, by omega, hc, hd⟩
  · have r1 : mu (mu (mu (mu (mu A 43 P n.toNat act) 44 P n.toNat fig) 45 P n.toNat a) 46 P n.toNat b) 0 0 30 (n + 1) 43 P e = A 43 P e := mu_ne A act (fun r => q r.2.2)
    have r2 : mu (mu (mu (mu (mu A 43 P n.toNat act) 44 P n.toNat fig) 45 P n.toNat a) 46 P n.toNat b) 0 0 30 (n + 1) 45 P e = A 45 P e := mu_ne (mu (mu A 43 P n.toNat act) 44 P n.toNat fig) a (fun r => q r.2.2)
    have r3 : mu (mu (mu (mu (mu A 43 P n.toNat act) 44 P n.toNat fig) 45 P n.toNat a) 46 P n.toNat b) 0 0 30 (n + 1) 46 P e = A 46 P e := mu_ne (mu (mu (mu A 43 P n.toNat act) 44 P n.toNat fig) 45 P n.toNat a) b (fun r => q r.2.2)
    rw [r1, r2, r3]
    exact h e (by omega)
theorem nK_node {P : Nat} {A : mA} {n act fig a b : Int} (hn : A 0 0 30 = n) (h0 : 0 ≤ n) : nK P A (mu (mu (mu (mu (mu A 43 P n.toNat act) 44 P n.toNat fig) 45 P n.toNat a) 46 P n.toNat b) 0 0 30 (n + 1)) := fun e he => by
  have q : ¬ e = n.toNat := by omega
  exact ⟨mu_ne A act (fun r => q r.2.2), mu_ne (mu A 43 P n.toNat act) fig (fun r => q r.2.2), mu_ne (mu (mu A 43 P n.toNat act) 44 P n.toNat fig) a (fun r => q r.2.2), mu_ne (mu (mu (mu A 43 P n.toNat act) 44 P n.toNat fig) 45 P n.toNat a) b (fun r => q r.2.2)⟩
theorem f_q_need_0_2 : mblkB b_Mo_need [(0, .aload_n 0, vi 0), (1, .iload_n 1, vi 0)] = true := by decide +kernel
theorem e_q_need_2 : decode b_Mo_need 2 = .ok (.invokevirtual 173, 3) := by decide +kernel
theorem e_q_need_5 : decode b_Mo_need 5 = .ok (.ifCond .eq 10, 3) := by decide +kernel
theorem f_q_need_15_2 : mblkB b_Mo_need [(15, .aload_n 0, vi 0), (16, .iconst 1, vi 1)] = true := by decide +kernel
theorem e_q_need_17 : decode b_Mo_need 17 = .ok (.putfield 155, 3) := by decide +kernel
theorem e_q_need_20 : decode b_Mo_need 20 = .ok (.return_, 1) := by decide +kernel
theorem f_q_need_8_1 : mblkB b_Mo_need [(8, .aload_n 0, vi 0)] = true := by decide +kernel
theorem e_q_need_9 : decode b_Mo_need 9 = .ok (.invokevirtual 176, 3) := by decide +kernel
theorem f_q_need_12_1 : mblkB b_Mo_need [(12, .goto 8, vi 20)] = true := by decide +kernel
set_option maxHeartbeats 40000000 in
set_option maxRecDepth 100000 in
theorem q_need (l : Launch) (D : va_G) (B : Nat) (H0 : Heap) (ad : mAd) (A : mA) (hS : mStr D ad) (hT : mTy A)  (c : Int) (hc : -2147483648 ≤ c ∧ c ≤ 2147483647) (hb : A 0 0 24 ≤ A 0 0 23 ∧ A 0 0 23 ≤ A 0 0 22) (hn : A 0 0 31 = 0 → (A 0 0 25 = 0 ∨ A 0 0 24 < A 0 0 23) ∧ (A 0 0 25 = 2 → 0 ≤ A 0 0 26 ∧ A 0 0 26 ≤ 5))  : mMet l D B H0 ad y_Mo_need b_Mo_need 2 none 7 280 [vr 0 0, vi c] A (fun v9 A9 => v9 = none ∧ mTy A9 ∧ mEq nm A A9 ∧ (A9 0 0 24 ≤ A9 0 0 23 ∧ A9 0 0 23 ≤ A9 0 0 22) ∧ (A9 0 0 31 = 0 → (A9 0 0 25 = 0 ∨ A9 0 0 24 < A9 0 0 23) ∧ (A9 0 0 25 = 2 → 0 ≤ A9 0 0 26 ∧ A9 0 0 26 ≤ 5)) ∧ (A9 0 0 31 = 0 → A 0 0 31 = 0 ∧ A 0 0 24 < A9 0 0 24) ∧ (A 0 0 24 ≤ A9 0 0 24)) := by
  refine m_met (by decide) rfl (fun g w0 C Rm Y E => ?_)
  have hE0 : mEq nm A A := mEq.rfl'
  show JM g D ad w0 A 0 [(0, vr 0 0), (1, vi c)] []
  have rt : A 0 0 22 ≤ 120 := (hT 0 0 22).2
  have rw9 : 0 ≤ A 0 0 31 ∧ A 0 0 31 ≤ 1 := hT 0 0 31
  refine m_blk 2 [(0, vr 0 0), (1, vi c)] [vi c, vr 0 0] C f_q_need_0_2 rfl ?_
  refine m_callV C Rm Y [vi c] [] (q_isSign l D B H0 ad _ hT c (by show -2147483648 ≤ c ∧ c ≤ 2147483647; omega)) cl_Mo_173 rfl (by decide) rfl rfl e_q_need_2 rfl rfl rfl ⟨by decide, by decide⟩ ?_
  rintro v1 A2 ⟨z5, rfl, rfl, raw_hz_n4⟩
  have hz_n4 : z5 = 1 ∧ A 0 0 31 = 0 ∧ A 0 0 25 = 4 ∧ A 0 0 26 = c ∨ z5 = 0 ∧ ¬ (A 0 0 31 = 0 ∧ A 0 0 25 = 4 ∧ A 0 0 26 = c) := raw_hz_n4
  show JM g D ad w0 A 5 [(0, vr 0 0), (1, vi c)] [vi z5]
  refine m_if_eq (tgt := 15) C e_q_need_5 (by decide) (by omega) (fun c6 => ?_) (fun c6 => ?_)
  · refine m_blk 17 [(0, vr 0 0), (1, vi c)] [vi 1, vr 0 0] C f_q_need_15_2 rfl ?_
    refine m_putz C e_q_need_17 fp_Mo_155 rfl (by decide) rfl (Or.inr rfl) ?_
    have t7 : mTy (mu A 0 0 31 1) := hT.mu (by show 0 ≤ 1 ∧ 1 ≤ 1; omega)
    have q8 := hE0.mu (f := 0) (k := 0) (j := 31) (z := 1) (by simp [nm])
    exact m_vret C Rm E e_q_need_20 ⟨rfl, t7, q8, (by show A 0 0 24 ≤ A 0 0 23 ∧ A 0 0 23 ≤ A 0 0 22; omega), (by show 1 = 0 → (A 0 0 25 = 0 ∨ A 0 0 24 < A 0 0 23) ∧ (A 0 0 25 = 2 → 0 ≤ A 0 0 26 ∧ A 0 0 26 ≤ 5); omega), (by show 1 = 0 → A 0 0 31 = 0 ∧ A 0 0 24 < A 0 0 24; omega), (by show A 0 0 24 ≤ A 0 0 24; omega)⟩
  · refine m_blk 9 [(0, vr 0 0), (1, vi c)] [vr 0 0] C f_q_need_8_1 rfl ?_
    refine m_callV C Rm Y [] [] (q_next l D B H0 ad _ hS hT (by show A 0 0 23 ≤ A 0 0 22; omega)) cl_Mo_176 rfl (by decide) rfl rfl e_q_need_9 rfl rfl rfl ⟨by decide, by decide⟩ ?_
    rintro v9 A10 ⟨rfl, hT_n12, hE_n12, raw_hw_n12, raw_hb_n12⟩
    have hF_n12 := hE0.trans (hE_n12.sub (fun _ _ _ h => h))
    have hw_n12 : A 0 0 31 = 1 → A10 = A := raw_hw_n12
    have hb_n12 : A 0 0 31 = 0 → A 0 0 23 ≤ A10 0 0 24 ∧ A10 0 0 24 ≤ A10 0 0 23 ∧ A10 0 0 23 ≤ A10 0 0 22 ∧ (A10 0 0 31 = 0 → (A10 0 0 25 = 0 ∨ A10 0 0 24 < A10 0 0 23) ∧ (A10 0 0 25 = 2 → 0 ≤ A10 0 0 26 ∧ A10 0 0 26 ≤ 5)) := raw_hb_n12
    show JM g D ad w0 A10 12 [(0, vr 0 0), (1, vi c)] []
    have k0_n12 : A10 0 0 0 = A 0 0 0 := hE_n12 0 0 0 rfl
    have k22_n12 : A10 0 0 22 = A 0 0 22 := hE_n12 0 0 22 rfl
    have k27_n12 : A10 0 0 27 = A 0 0 27 := hE_n12 0 0 27 rfl
    have k28_n12 : A10 0 0 28 = A 0 0 28 := hE_n12 0 0 28 rfl
    have k29_n12 : A10 0 0 29 = A 0 0 29 := hE_n12 0 0 29 rfl
    have k30_n12 : A10 0 0 30 = A 0 0 30 := hE_n12 0 0 30 rfl
    have w_n12 : 0 ≤ A10 0 0 31 ∧ A10 0 0 31 ≤ 1 := hT_n12 0 0 31
    refine m_blk 20 [(0, vr 0 0), (1, vi c)] [] C f_q_need_12_1 rfl ?_
    exact m_vret C Rm E e_q_need_20 ⟨rfl, hT_n12, hF_n12, (by show A10 0 0 24 ≤ A10 0 0 23 ∧ A10 0 0 23 ≤ A10 0 0 22; omega), (by show A10 0 0 31 = 0 → (A10 0 0 25 = 0 ∨ A10 0 0 24 < A10 0 0 23) ∧ (A10 0 0 25 = 2 → 0 ≤ A10 0 0 26 ∧ A10 0 0 26 ≤ 5); omega), (by show A10 0 0 31 = 0 → A 0 0 31 = 0 ∧ A 0 0 24 < A10 0 0 24; omega), (by show A 0 0 24 ≤ A10 0 0 24; omega)⟩

theorem f_q_takes_0_1 : mblkB b_Mo_takes [(0, .aload_n 0, vi 0)] = true := by decide +kernel
theorem e_q_takes_1 : decode b_Mo_takes 1 = .ok (.getfield 155, 3) := by decide +kernel
theorem e_q_takes_4 : decode b_Mo_takes 4 = .ok (.ifCond .ne 23, 3) := by decide +kernel
theorem f_q_takes_27_2 : mblkB b_Mo_takes [(27, .aload_n 0, vi 0), (28, .iconst 1, vi 1)] = true := by decide +kernel
theorem e_q_takes_29 : decode b_Mo_takes 29 = .ok (.putfield 155, 3) := by decide +kernel
theorem f_q_takes_32_1 : mblkB b_Mo_takes [(32, .iconst 0, vi 0)] = true := by decide +kernel
theorem e_q_takes_33 : decode b_Mo_takes 33 = .ok (.ireturn, 1) := by decide +kernel
theorem f_q_takes_7_1 : mblkB b_Mo_takes [(7, .aload_n 0, vi 0)] = true := by decide +kernel
theorem e_q_takes_8 : decode b_Mo_takes 8 = .ok (.getfield 159, 3) := by decide +kernel
theorem f_q_takes_11_1 : mblkB b_Mo_takes [(11, .iload_n 1, vi 0)] = true := by decide +kernel
theorem e_q_takes_12 : decode b_Mo_takes 12 = .ok (.if_icmp .ne 15, 3) := by decide +kernel
theorem f_q_takes_15_1 : mblkB b_Mo_takes [(15, .aload_n 0, vi 0)] = true := by decide +kernel
theorem e_q_takes_16 : decode b_Mo_takes 16 = .ok (.getfield 165, 3) := by decide +kernel
theorem f_q_takes_19_2 : mblkB b_Mo_takes [(19, .iload_n 2, vi 0), (20, .iload_n 3, vi 0)] = true := by decide +kernel
theorem e_q_takes_21 : decode b_Mo_takes 21 = .ok (.invokestatic 108, 3) := by decide +kernel
theorem e_q_takes_24 : decode b_Mo_takes 24 = .ok (.ifCond .ne 10, 3) := by decide +kernel
theorem f_q_takes_34_1 : mblkB b_Mo_takes [(34, .aload_n 0, vi 0)] = true := by decide +kernel
theorem e_q_takes_35 : decode b_Mo_takes 35 = .ok (.getfield 165, 3) := by decide +kernel
theorem f_q_takes_38_2 : mblkB b_Mo_takes [(38, .istore 4, vi 0), (40, .aload_n 0, vi 0)] = true := by decide +kernel
theorem e_q_takes_41 : decode b_Mo_takes 41 = .ok (.invokevirtual 176, 3) := by decide +kernel
theorem f_q_takes_44_1 : mblkB b_Mo_takes [(44, .iload 4, vi 0)] = true := by decide +kernel
theorem e_q_takes_46 : decode b_Mo_takes 46 = .ok (.ireturn, 1) := by decide +kernel
set_option maxHeartbeats 40000000 in
set_option maxRecDepth 100000 in
theorem q_takes (l : Launch) (D : va_G) (B : Nat) (H0 : Heap) (ad : mAd) (A : mA) (hS : mStr D ad) (hT : mTy A)  (s : Int) (a : Int) (b : Int) (hs : 1 ≤ s ∧ s ≤ 4) (hr : 0 ≤ a ∧ a ≤ 2147483647 ∧ -1 ≤ b ∧ b ≤ 2147483647) (hb : A 0 0 24 ≤ A 0 0 23 ∧ A 0 0 23 ≤ A 0 0 22) (hn : A 0 0 31 = 0 → (A 0 0 25 = 0 ∨ A 0 0 24 < A 0 0 23) ∧ (A 0 0 25 = 2 → 0 ≤ A 0 0 26 ∧ A 0 0 26 ≤ 5))  : mMet l D B H0 ad y_Mo_takes b_Mo_takes 5 (some .int) 7 280 [vr 0 0, vi s, vi a, vi b] A (fun v9 A9 => ∃ z : Int, v9 = some (vi z) ∧ mTy A9 ∧ mEq nm A A9 ∧ (z = 0 ∨ a ≤ z ∧ z ≤ b) ∧ (A9 0 0 24 ≤ A9 0 0 23 ∧ A9 0 0 23 ≤ A9 0 0 22) ∧ (A9 0 0 31 = 0 → (A9 0 0 25 = 0 ∨ A9 0 0 24 < A9 0 0 23) ∧ (A9 0 0 25 = 2 → 0 ≤ A9 0 0 26 ∧ A9 0 0 26 ≤ 5)) ∧ (A9 0 0 31 = 0 → A 0 0 31 = 0 ∧ A 0 0 24 < A9 0 0 24 ∧ a ≤ z ∧ z ≤ b) ∧ (A 0 0 24 ≤ A9 0 0 24)) := by
  refine m_met (by decide) rfl (fun g w0 C Rm Y E => ?_)
  have hE0 : mEq nm A A := mEq.rfl'
  show JM g D ad w0 A 0 [(0, vr 0 0), (1, vi s), (2, vi a), (3, vi b)] []
  have rt : A 0 0 22 ≤ 120 := (hT 0 0 22).2
  have rw9 : 0 ≤ A 0 0 31 ∧ A 0 0 31 ≤ 1 := hT 0 0 31
  refine m_blk 1 [(0, vr 0 0), (1, vi s), (2, vi a), (3, vi b)] [vr 0 0] C f_q_takes_0_1 rfl ?_
  obtain ⟨x1, hx1⟩ : ∃ x, A 0 0 31 = x := ⟨_, rfl⟩
  have rx1 : 0 ≤ x1 ∧ x1 ≤ 1 := mrg hT hx1 rfl
  refine m_geti C e_q_takes_1 fg_Mo_155 rfl (by decide) rfl x1 hx1 ?_
  refine m_if_ne (tgt := 27) C e_q_takes_4 (by decide) (by omega) (fun c2 => ?_) (fun c2 => ?_)
  · refine m_blk 29 [(0, vr 0 0), (1, vi s), (2, vi a), (3, vi b)] [vi 1, vr 0 0] C f_q_takes_27_2 rfl ?_
    refine m_putz C e_q_takes_29 fp_Mo_155 rfl (by decide) rfl (Or.inr rfl) ?_
    have t3 : mTy (mu A 0 0 31 1) := hT.mu (by show 0 ≤ 1 ∧ 1 ≤ 1; omega)
    have q4 := hE0.mu (f := 0) (k := 0) (j := 31) (z := 1) (by simp [nm])
    refine m_blk 33 [(0, vr 0 0), (1, vi s), (2, vi a), (3, vi b)] [vi 0] C f_q_takes_32_1 rfl ?_
    exact m_iret C Rm E e_q_takes_33 ⟨0, rfl, t3, q4, (by show 0 = 0 ∨ a ≤ 0 ∧ 0 ≤ b; omega), (by show A 0 0 24 ≤ A 0 0 23 ∧ A 0 0 23 ≤ A 0 0 22; omega), (by show 1 = 0 → (A 0 0 25 = 0 ∨ A 0 0 24 < A 0 0 23) ∧ (A 0 0 25 = 2 → 0 ≤ A 0 0 26 ∧ A 0 0 26 ≤ 5); omega), (by show 1 = 0 → A 0 0 31 = 0 ∧ A 0 0 24 < A 0 0 24 ∧ a ≤ 0 ∧ 0 ≤ b; omega), (by show A 0 0 24 ≤ A 0 0 24; omega)⟩
  · refine m_blk 8 [(0, vr 0 0), (1, vi s), (2, vi a), (3, vi b)] [vr 0 0] C f_q_takes_7_1 rfl ?_
    obtain ⟨x5, hx5⟩ : ∃ x, A 0 0 25 = x := ⟨_, rfl⟩
    have rx5 : 0 ≤ x5 ∧ x5 ≤ 4 := mrg hT hx5 rfl
    refine m_geti C e_q_takes_8 fg_Mo_159 rfl (by decide) rfl x5 hx5 ?_
    refine m_blk 12 [(0, vr 0 0), (1, vi s), (2, vi a), (3, vi b)] [vi s, vi x5] C f_q_takes_11_1 rfl ?_
    refine m_icmp_ne (tgt := 27) C e_q_takes_12 (by decide) (by omega) (by omega) (fun c6 => ?_) (fun c6 => ?_)
    · refine m_blk 29 [(0, vr 0 0), (1, vi s), (2, vi a), (3, vi b)] [vi 1, vr 0 0] C f_q_takes_27_2 rfl ?_
      refine m_putz C e_q_takes_29 fp_Mo_155 rfl (by decide) rfl (Or.inr rfl) ?_
      have t7 : mTy (mu A 0 0 31 1) := hT.mu (by show 0 ≤ 1 ∧ 1 ≤ 1; omega)
      have q8 := hE0.mu (f := 0) (k := 0) (j := 31) (z := 1) (by simp [nm])
      refine m_blk 33 [(0, vr 0 0), (1, vi s), (2, vi a), (3, vi b)] [vi 0] C f_q_takes_32_1 rfl ?_
      exact m_iret C Rm E e_q_takes_33 ⟨0, rfl, t7, q8, (by show 0 = 0 ∨ a ≤ 0 ∧ 0 ≤ b; omega), (by show A 0 0 24 ≤ A 0 0 23 ∧ A 0 0 23 ≤ A 0 0 22; omega), (by show 1 = 0 → (A 0 0 25 = 0 ∨ A 0 0 24 < A 0 0 23) ∧ (A 0 0 25 = 2 → 0 ≤ A 0 0 26 ∧ A 0 0 26 ≤ 5); omega), (by show 1 = 0 → A 0 0 31 = 0 ∧ A 0 0 24 < A 0 0 24 ∧ a ≤ 0 ∧ 0 ≤ b; omega), (by show A 0 0 24 ≤ A 0 0 24; omega)⟩
    · refine m_blk 16 [(0, vr 0 0), (1, vi s), (2, vi a), (3, vi b)] [vr 0 0] C f_q_takes_15_1 rfl ?_
      obtain ⟨x9, hx9⟩ : ∃ x, A 0 0 26 = x := ⟨_, rfl⟩
      have rx9 : (-1) ≤ x9 ∧ x9 ≤ 255 := mrg hT hx9 rfl
      refine m_geti C e_q_takes_16 fg_Mo_165 rfl (by decide) rfl x9 hx9 ?_
      refine m_blk 21 [(0, vr 0 0), (1, vi s), (2, vi a), (3, vi b)] [vi b, vi a, vi x9] C f_q_takes_19_2 rfl ?_
      refine m_callS C Rm Y [vi x9, vi a, vi b] [] (q_in l D B H0 ad _ x9 a b (by omega) (by omega) (by omega)) cl_Mo_108 e_q_takes_21 rfl rfl rfl ⟨by decide, by decide⟩ ?_
      rintro v10 A11 ⟨z13, rfl, rfl, hz13⟩
      show JM g D ad w0 A 24 [(0, vr 0 0), (1, vi s), (2, vi a), (3, vi b)] [vi z13]
      refine m_if_ne (tgt := 34) C e_q_takes_24 (by decide) (by omega) (fun c14 => ?_) (fun c14 => ?_)
      · refine m_blk 35 [(0, vr 0 0), (1, vi s), (2, vi a), (3, vi b)] [vr 0 0] C f_q_takes_34_1 rfl ?_
        refine m_geti C e_q_takes_35 fg_Mo_165 rfl (by decide) rfl x9 hx9 ?_
        refine m_blk 41 [(4, vi x9), (0, vr 0 0), (1, vi s), (2, vi a), (3, vi b)] [vr 0 0] C f_q_takes_38_2 rfl ?_
        refine m_callV C Rm Y [] [] (q_next l D B H0 ad _ hS hT (by show A 0 0 23 ≤ A 0 0 22; omega)) cl_Mo_176 rfl (by decide) rfl rfl e_q_takes_41 rfl rfl rfl ⟨by decide, by decide⟩ ?_
        rintro v15 A16 ⟨rfl, hT_n18, hE_n18, raw_hw_n18, raw_hb_n18⟩
        have hF_n18 := hE0.trans (hE_n18.sub (fun _ _ _ h => h))
        have hw_n18 : A 0 0 31 = 1 → A16 = A := raw_hw_n18
        have hb_n18 : A 0 0 31 = 0 → A 0 0 23 ≤ A16 0 0 24 ∧ A16 0 0 24 ≤ A16 0 0 23 ∧ A16 0 0 23 ≤ A16 0 0 22 ∧ (A16 0 0 31 = 0 → (A16 0 0 25 = 0 ∨ A16 0 0 24 < A16 0 0 23) ∧ (A16 0 0 25 = 2 → 0 ≤ A16 0 0 26 ∧ A16 0 0 26 ≤ 5)) := raw_hb_n18
        show JM g D ad w0 A16 44 [(4, vi x9), (0, vr 0 0), (1, vi s), (2, vi a), (3, vi b)] []
        have k0_n18 : A16 0 0 0 = A 0 0 0 := hE_n18 0 0 0 rfl
        have k22_n18 : A16 0 0 22 = A 0 0 22 := hE_n18 0 0 22 rfl
        have k27_n18 : A16 0 0 27 = A 0 0 27 := hE_n18 0 0 27 rfl
        have k28_n18 : A16 0 0 28 = A 0 0 28 := hE_n18 0 0 28 rfl
        have k29_n18 : A16 0 0 29 = A 0 0 29 := hE_n18 0 0 29 rfl
        have k30_n18 : A16 0 0 30 = A 0 0 30 := hE_n18 0 0 30 rfl
        have w_n18 : 0 ≤ A16 0 0 31 ∧ A16 0 0 31 ≤ 1 := hT_n18 0 0 31
        refine m_blk 46 [(4, vi x9), (0, vr 0 0), (1, vi s), (2, vi a), (3, vi b)] [vi x9] C f_q_takes_44_1 rfl ?_
        exact m_iret C Rm E e_q_takes_46 ⟨x9, rfl, hT_n18, hF_n18, (by show x9 = 0 ∨ a ≤ x9 ∧ x9 ≤ b; omega), (by show A16 0 0 24 ≤ A16 0 0 23 ∧ A16 0 0 23 ≤ A16 0 0 22; omega), (by show A16 0 0 31 = 0 → (A16 0 0 25 = 0 ∨ A16 0 0 24 < A16 0 0 23) ∧ (A16 0 0 25 = 2 → 0 ≤ A16 0 0 26 ∧ A16 0 0 26 ≤ 5); omega), (by show A16 0 0 31 = 0 → A 0 0 31 = 0 ∧ A 0 0 24 < A16 0 0 24 ∧ a ≤ x9 ∧ x9 ≤ b; omega), (by show A 0 0 24 ≤ A16 0 0 24; omega)⟩
      · refine m_blk 29 [(0, vr 0 0), (1, vi s), (2, vi a), (3, vi b)] [vi 1, vr 0 0] C f_q_takes_27_2 rfl ?_
        refine m_putz C e_q_takes_29 fp_Mo_155 rfl (by decide) rfl (Or.inr rfl) ?_
        have t19 : mTy (mu A 0 0 31 1) := hT.mu (by show 0 ≤ 1 ∧ 1 ≤ 1; omega)
        have q20 := hE0.mu (f := 0) (k := 0) (j := 31) (z := 1) (by simp [nm])
        refine m_blk 33 [(0, vr 0 0), (1, vi s), (2, vi a), (3, vi b)] [vi 0] C f_q_takes_32_1 rfl ?_
        exact m_iret C Rm E e_q_takes_33 ⟨0, rfl, t19, q20, (by show 0 = 0 ∨ a ≤ 0 ∧ 0 ≤ b; omega), (by show A 0 0 24 ≤ A 0 0 23 ∧ A 0 0 23 ≤ A 0 0 22; omega), (by show 1 = 0 → (A 0 0 25 = 0 ∨ A 0 0 24 < A 0 0 23) ∧ (A 0 0 25 = 2 → 0 ≤ A 0 0 26 ∧ A 0 0 26 ≤ 5); omega), (by show 1 = 0 → A 0 0 31 = 0 ∧ A 0 0 24 < A 0 0 24 ∧ a ≤ 0 ∧ 0 ≤ b; omega), (by show A 0 0 24 ≤ A 0 0 24; omega)⟩

theorem f_q_node_0_1 : mblkB b_Mo_node [(0, .aload_n 0, vi 0)] = true := by decide +kernel
theorem e_q_node_1 : decode b_Mo_node 1 = .ok (.getfield 155, 3) := by decide +kernel
theorem e_q_node_4 : decode b_Mo_node 4 = .ok (.ifCond .eq 5, 3) := by decide +kernel
theorem f_q_node_9_1 : mblkB b_Mo_node [(9, .aload_n 0, vi 0)] = true := by decide +kernel
theorem e_q_node_10 : decode b_Mo_node 10 = .ok (.getfield 48, 3) := by decide +kernel
theorem f_q_node_13_1 : mblkB b_Mo_node [(13, .aload_n 0, vi 0)] = true := by decide +kernel
theorem e_q_node_14 : decode b_Mo_node 14 = .ok (.getfield 105, 3) := by decide +kernel
theorem e_q_node_17 : decode b_Mo_node 17 = .ok (.aaload, 1) := by decide +kernel
theorem f_q_node_18_1 : mblkB b_Mo_node [(18, .aload_n 0, vi 0)] = true := by decide +kernel
theorem e_q_node_19 : decode b_Mo_node 19 = .ok (.getfield 212, 3) := by decide +kernel
theorem f_q_node_22_1 : mblkB b_Mo_node [(22, .iload_n 1, vi 0)] = true := by decide +kernel
theorem e_q_node_23 : decode b_Mo_node 23 = .ok (.iastore, 1) := by decide +kernel
theorem f_q_node_24_1 : mblkB b_Mo_node [(24, .aload_n 0, vi 0)] = true := by decide +kernel
theorem e_q_node_25 : decode b_Mo_node 25 = .ok (.getfield 51, 3) := by decide +kernel
theorem f_q_node_28_1 : mblkB b_Mo_node [(28, .aload_n 0, vi 0)] = true := by decide +kernel
theorem e_q_node_29 : decode b_Mo_node 29 = .ok (.getfield 105, 3) := by decide +kernel
theorem e_q_node_32 : decode b_Mo_node 32 = .ok (.aaload, 1) := by decide +kernel
theorem f_q_node_33_1 : mblkB b_Mo_node [(33, .aload_n 0, vi 0)] = true := by decide +kernel
theorem e_q_node_34 : decode b_Mo_node 34 = .ok (.getfield 212, 3) := by decide +kernel
theorem f_q_node_37_1 : mblkB b_Mo_node [(37, .iload_n 2, vi 0)] = true := by decide +kernel
theorem e_q_node_38 : decode b_Mo_node 38 = .ok (.iastore, 1) := by decide +kernel
theorem f_q_node_39_1 : mblkB b_Mo_node [(39, .aload_n 0, vi 0)] = true := by decide +kernel
theorem e_q_node_40 : decode b_Mo_node 40 = .ok (.getfield 54, 3) := by decide +kernel
theorem f_q_node_43_1 : mblkB b_Mo_node [(43, .aload_n 0, vi 0)] = true := by decide +kernel
theorem e_q_node_44 : decode b_Mo_node 44 = .ok (.getfield 105, 3) := by decide +kernel
theorem e_q_node_47 : decode b_Mo_node 47 = .ok (.aaload, 1) := by decide +kernel
theorem f_q_node_48_1 : mblkB b_Mo_node [(48, .aload_n 0, vi 0)] = true := by decide +kernel
theorem e_q_node_49 : decode b_Mo_node 49 = .ok (.getfield 212, 3) := by decide +kernel
theorem f_q_node_52_1 : mblkB b_Mo_node [(52, .iload_n 3, vi 0)] = true := by decide +kernel
theorem e_q_node_53 : decode b_Mo_node 53 = .ok (.iastore, 1) := by decide +kernel
theorem f_q_node_54_1 : mblkB b_Mo_node [(54, .aload_n 0, vi 0)] = true := by decide +kernel
theorem e_q_node_55 : decode b_Mo_node 55 = .ok (.getfield 57, 3) := by decide +kernel
theorem f_q_node_58_1 : mblkB b_Mo_node [(58, .aload_n 0, vi 0)] = true := by decide +kernel
theorem e_q_node_59 : decode b_Mo_node 59 = .ok (.getfield 105, 3) := by decide +kernel
theorem e_q_node_62 : decode b_Mo_node 62 = .ok (.aaload, 1) := by decide +kernel
theorem f_q_node_63_1 : mblkB b_Mo_node [(63, .aload_n 0, vi 0)] = true := by decide +kernel
theorem e_q_node_64 : decode b_Mo_node 64 = .ok (.getfield 212, 3) := by decide +kernel
theorem f_q_node_67_1 : mblkB b_Mo_node [(67, .iload 4, vi 0)] = true := by decide +kernel
theorem e_q_node_69 : decode b_Mo_node 69 = .ok (.iastore, 1) := by decide +kernel
theorem f_q_node_70_2 : mblkB b_Mo_node [(70, .aload_n 0, vi 0), (71, .dup, vi 0)] = true := by decide +kernel
theorem e_q_node_72 : decode b_Mo_node 72 = .ok (.getfield 212, 3) := by decide +kernel
theorem f_q_node_75_2 : mblkB b_Mo_node [(75, .iconst 1, vi 1), (76, .iadd, vi 0)] = true := by decide +kernel
theorem e_q_node_77 : decode b_Mo_node 77 = .ok (.putfield 212, 3) := by decide +kernel
theorem f_q_node_80_1 : mblkB b_Mo_node [(80, .aload_n 0, vi 0)] = true := by decide +kernel
theorem e_q_node_81 : decode b_Mo_node 81 = .ok (.getfield 212, 3) := by decide +kernel
theorem f_q_node_84_2 : mblkB b_Mo_node [(84, .iconst 1, vi 1), (85, .isub, vi 0)] = true := by decide +kernel
theorem e_q_node_86 : decode b_Mo_node 86 = .ok (.ireturn, 1) := by decide +kernel
theorem f_q_node_7_1 : mblkB b_Mo_node [(7, .iconst 0, vi 0)] = true := by decide +kernel
theorem e_q_node_8 : decode b_Mo_node 8 = .ok (.ireturn, 1) := by decide +kernel
set_option maxHeartbeats 40000000 in
set_option maxRecDepth 100000 in
theorem q_node (l : Launch) (D : va_G) (B : Nat) (H0 : Heap) (ad : mAd) (A : mA) (hT : mTy A) (p0 : Int) (act : Int) (fig : Int) (a : Int) (b : Int) (hp : A 0 0 0 = p0 ∧ 0 ≤ p0 ∧ p0 ≤ 5) (hl : A 0 0 31 = 0 → A 0 0 30 ≤ 119) (hr : (-1 ≤ act ∧ act ≤ 255) ∧ (-1 ≤ fig ∧ fig ≤ 255) ∧ (-1 ≤ a ∧ a ≤ 119) ∧ (-1 ≤ b ∧ b ≤ 119)) (hG : nG p0.toNat A) (hv : A 0 0 31 = 0 → a < A 0 0 30 ∧ b < A 0 0 30 ∧ (act ≠ 0 → act ≠ 1 → 0 ≤ a) ∧ (act ≠ 0 → act ≠ 1 → act ≠ 2 → 0 ≤ b))  : mMet l D B H0 ad y_Mo_node b_Mo_node 5 (some .int) 0 0 [vr 0 0, vi act, vi fig, vi a, vi b] A (fun v9 A9 => ∃ z : Int, v9 = some (vi z) ∧ mTy A9 ∧ mEq (nd p0.toNat) A A9 ∧ (0 ≤ z ∧ z ≤ 119) ∧ (A 0 0 31 = 1 → A9 = A) ∧ (A 0 0 31 = 0 → A9 0 0 30 = A 0 0 30 + 1 ∧ z = A 0 0 30) ∧ (A 0 0 30 ≤ A9 0 0 30) ∧ (nG p0.toNat A9) ∧ (nK p0.toNat A A9)) := by
  refine m_met (by decide) rfl (fun g w0 C Rm Y E => ?_)
  have hE0 : mEq (nd p0.toNat) A A := mEq.rfl'
  show JM g D ad w0 A 0 [(0, vr 0 0), (1, vi act), (2, vi fig), (3, vi a), (4, vi b)] []
  have rn9 : 0 ≤ A 0 0 30 := (hT 0 0 30).1
  refine m_blk 1 [(0, vr 0 0), (1, vi act), (2, vi fig), (3, vi a), (4, vi b)] [vr 0 0] C f_q_node_0_1 rfl ?_
  obtain ⟨x1, hx1⟩ : ∃ x, A 0 0 31 = x := ⟨_, rfl⟩
  have rx1 : 0 ≤ x1 ∧ x1 ≤ 1 := mrg hT hx1 rfl
  refine m_geti C e_q_node_1 fg_Mo_155 rfl (by decide) rfl x1 hx1 ?_
  refine m_if_eq (tgt := 9) C e_q_node_4 (by decide) (by omega) (fun c2 => ?_) (fun c2 => ?_)
  · refine m_blk 10 [(0, vr 0 0), (1, vi act), (2, vi fig), (3, vi a), (4, vi b)] [vr 0 0] C f_q_node_9_1 rfl ?_
    refine m_getr C e_q_node_10 fg_Mo_48 rfl (by decide) rfl ?_
    refine m_blk 14 [(0, vr 0 0), (1, vi act), (2, vi fig), (3, vi a), (4, vi b)] [vr 0 0, vr 23 0] C f_q_node_13_1 rfl ?_
    refine m_geti C e_q_node_14 fg_Mo_105 rfl (by decide) rfl p0 hp.1 ?_
    refine m_aald C p0.toNat e_q_node_17 rfl rfl rfl (by decide) (by decide) (by omega) (by show p0 < ((6 : Nat) : Int); omega) (mz _ _) ?_
    refine m_blk 19 [(0, vr 0 0), (1, vi act), (2, vi fig), (3, vi a), (4, vi b)] [vr 0 0, vr 43 p0.toNat] C f_q_node_18_1 rfl ?_
    obtain ⟨x3, hx3⟩ : ∃ x, A 0 0 30 = x := ⟨_, rfl⟩
    have rx3 : 0 ≤ x3 ∧ x3 ≤ 120 := mrg hT hx3 rfl
    refine m_geti C e_q_node_19 fg_Mo_212 rfl (by decide) rfl x3 hx3 ?_
    refine m_blk 23 [(0, vr 0 0), (1, vi act), (2, vi fig), (3, vi a), (4, vi b)] [vi act, vi x3, vr 43 p0.toNat] C f_q_node_22_1 rfl ?_
    refine m_iast C e_q_node_23 rfl (by omega) (by decide) (by omega) (by show x3 < ((120 : Nat) : Int); omega) ?_
    have t4 : mTy (mu A 43 p0.toNat x3.toNat act) := hT.mu (by show (-1) ≤ act ∧ act ≤ 255; omega)
    have q5 := hE0.mu (f := 43) (k := p0.toNat) (j := x3.toNat) (z := act) (by simp [nd])
    refine m_blk 25 [(0, vr 0 0), (1, vi act), (2, vi fig), (3, vi a), (4, vi b)] [vr 0 0] C f_q_node_24_1 rfl ?_
    refine m_getr C e_q_node_25 fg_Mo_51 rfl (by decide) rfl ?_
    refine m_blk 29 [(0, vr 0 0), (1, vi act), (2, vi fig), (3, vi a), (4, vi b)] [vr 0 0, vr 24 0] C f_q_node_28_1 rfl ?_
    refine m_geti C e_q_node_29 fg_Mo_105 rfl (by decide) rfl p0 hp.1 ?_
    refine m_aald C p0.toNat e_q_node_32 rfl rfl rfl (by decide) (by decide) (by omega) (by show p0 < ((6 : Nat) : Int); omega) (mz _ _) ?_
    refine m_blk 34 [(0, vr 0 0), (1, vi act), (2, vi fig), (3, vi a), (4, vi b)] [vr 0 0, vr 44 p0.toNat] C f_q_node_33_1 rfl ?_
    refine m_geti C e_q_node_34 fg_Mo_212 rfl (by decide) rfl x3 hx3 ?_
    refine m_blk 38 [(0, vr 0 0), (1, vi act), (2, vi fig), (3, vi a), (4, vi b)] [vi fig, vi x3, vr 44 p0.toNat] C f_q_node_37_1 rfl ?_
    refine m_iast C e_q_node_38 rfl (by omega) (by decide) (by omega) (by show x3 < ((120 : Nat) : Int); omega) ?_
    have t6 : mTy (mu (mu A 43 p0.toNat x3.toNat act) 44 p0.toNat x3.toNat fig) := t4.mu (by show (-1) ≤ fig ∧ fig ≤ 255; omega)
    have q7 := q5.mu (f := 44) (k := p0.toNat) (j := x3.toNat) (z := fig) (by simp [nd])
    refine m_blk 40 [(0, vr 0 0), (1, vi act), (2, vi fig), (3, vi a), (4, vi b)] [vr 0 0] C f_q_node_39_1 rfl ?_
    refine m_getr C e_q_node_40 fg_Mo_54 rfl (by decide) rfl ?_
    refine m_blk 44 [(0, vr 0 0), (1, vi act), (2, vi fig), (3, vi a), (4, vi b)] [vr 0 0, vr 25 0] C f_q_node_43_1 rfl ?_
    refine m_geti C e_q_node_44 fg_Mo_105 rfl (by decide) rfl p0 hp.1 ?_
    refine m_aald C p0.toNat e_q_node_47 rfl rfl rfl (by decide) (by decide) (by omega) (by show p0 < ((6 : Nat) : Int); omega) (mz _ _) ?_
    refine m_blk 49 [(0, vr 0 0), (1, vi act), (2, vi fig), (3, vi a), (4, vi b)] [vr 0 0, vr 45 p0.toNat] C f_q_node_48_1 rfl ?_
    refine m_geti C e_q_node_49 fg_Mo_212 rfl (by decide) rfl x3 hx3 ?_
    refine m_blk 53 [(0, vr 0 0), (1, vi act), (2, vi fig), (3, vi a), (4, vi b)] [vi a, vi x3, vr 45 p0.toNat] C f_q_node_52_1 rfl ?_
    refine m_iast C e_q_node_53 rfl (by omega) (by decide) (by omega) (by show x3 < ((120 : Nat) : Int); omega) ?_
    have t8 : mTy (mu (mu (mu A 43 p0.toNat x3.toNat act) 44 p0.toNat x3.toNat fig) 45 p0.toNat x3.toNat a) := t6.mu (by show (-1) ≤ a ∧ a ≤ 119; omega)
    have q9 := q7.mu (f := 45) (k := p0.toNat) (j := x3.toNat) (z := a) (by simp [nd])
    refine m_blk 55 [(0, vr 0 0), (1, vi act), (2, vi fig), (3, vi a), (4, vi b)] [vr 0 0] C f_q_node_54_1 rfl ?_
    refine m_getr C e_q_node_55 fg_Mo_57 rfl (by decide) rfl ?_
    refine m_blk 59 [(0, vr 0 0), (1, vi act), (2, vi fig), (3, vi a), (4, vi b)] [vr 0 0, vr 26 0] C f_q_node_58_1 rfl ?_
    refine m_geti C e_q_node_59 fg_Mo_105 rfl (by decide) rfl p0 hp.1 ?_
    refine m_aald C p0.toNat e_q_node_62 rfl rfl rfl (by decide) (by decide) (by omega) (by show p0 < ((6 : Nat) : Int); omega) (mz _ _) ?_
    refine m_blk 64 [(0, vr 0 0), (1, vi act), (2, vi fig), (3, vi a), (4, vi b)] [vr 0 0, vr 46 p0.toNat] C f_q_node_63_1 rfl ?_
    refine m_geti C e_q_node_64 fg_Mo_212 rfl (by decide) rfl x3 hx3 ?_
    refine m_blk 69 [(0, vr 0 0), (1, vi act), (2, vi fig), (3, vi a), (4, vi b)] [vi b, vi x3, vr 46 p0.toNat] C f_q_node_67_1 rfl ?_
    refine m_iast C e_q_node_69 rfl (by omega) (by decide) (by omega) (by show x3 < ((120 : Nat) : Int); omega) ?_
    have t10 : mTy (mu (mu (mu (mu A 43 p0.toNat x3.toNat act) 44 p0.toNat x3.toNat fig) 45 p0.toNat x3.toNat a) 46 p0.toNat x3.toNat b) := t8.mu (by show (-1) ≤ b ∧ b ≤ 119; omega)
    have q11 := q9.mu (f := 46) (k := p0.toNat) (j := x3.toNat) (z := b) (by simp [nd])
    refine m_blk 72 [(0, vr 0 0), (1, vi act), (2, vi fig), (3, vi a), (4, vi b)] [vr 0 0, vr 0 0] C f_q_node_70_2 rfl ?_
    refine m_geti C e_q_node_72 fg_Mo_212 rfl (by decide) rfl x3 hx3 ?_
    refine m_blk 77 [(0, vr 0 0), (1, vi act), (2, vi fig), (3, vi a), (4, vi b)] [vi (x3 + 1), vr 0 0] C f_q_node_75_2 rfl ?_
    refine m_puti C e_q_node_77 fp_Mo_212 rfl (by decide) rfl ?_
    have t12 : mTy (mu (mu (mu (mu (mu A 43 p0.toNat x3.toNat act) 44 p0.toNat x3.toNat fig) 45 p0.toNat x3.toNat a) 46 p0.toNat x3.toNat b) 0 0 30 (x3 + 1)) := t10.mu (by show 0 ≤ (x3 + 1) ∧ (x3 + 1) ≤ 120; omega)
    have q13 := q11.mu (f := 0) (k := 0) (j := 30) (z := (x3 + 1)) (by simp [nd])
    refine m_blk 81 [(0, vr 0 0), (1, vi act), (2, vi fig), (3, vi a), (4, vi b)] [vr 0 0] C f_q_node_80_1 rfl ?_
    refine m_geti C e_q_node_81 fg_Mo_212 rfl (by decide) rfl (x3 + 1) rfl ?_
    refine m_blk 86 [(0, vr 0 0), (1, vi act), (2, vi fig), (3, vi a), (4, vi b)] [vi ((x3 + 1) - 1)] C f_q_node_84_2 rfl ?_
    exact m_iret C Rm E e_q_node_86 ⟨((x3 + 1) - 1), rfl, t12, q13, (by show 0 ≤ ((x3 + 1) - 1) ∧ ((x3 + 1) - 1) ≤ 119; omega), (fun h9 => absurd h9 (by omega)), (by show A 0 0 31 = 0 → (x3 + 1) = A 0 0 30 + 1 ∧ ((x3 + 1) - 1) = A 0 0 30; omega), (by show A 0 0 30 ≤ (x3 + 1); omega), (nG_node hG hx3 (by omega) (by omega) (by omega) (by omega) (by omega)), (nK_node hx3 (by omega))⟩
  · refine m_blk 8 [(0, vr 0 0), (1, vi act), (2, vi fig), (3, vi a), (4, vi b)] [vi 0] C f_q_node_7_1 rfl ?_
    exact m_iret C Rm E e_q_node_8 ⟨0, rfl, hT, hE0, (by show 0 ≤ 0 ∧ 0 ≤ 119; omega), (fun _ => rfl), (by show A 0 0 31 = 0 → A 0 0 30 = A 0 0 30 + 1 ∧ 0 = A 0 0 30; omega), (by show A 0 0 30 ≤ A 0 0 30; omega), hG, nK.rfl'⟩
