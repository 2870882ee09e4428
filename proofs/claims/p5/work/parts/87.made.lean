/-! the reference: odds made step by step (own work, by program) -/
def tkm (u f k j : Nat) : Bool := (f == 0 && j == 33) || (f == 1 && (k == u && j == 2))
def dm (u f k j : Nat) : Bool := (f == 0 && j == 33) || ((f == 1 || (f == 3 || f == 4)) && Nat.ble u k)
theorem ble_t {a b : Nat} (h : a ≤ b) : Nat.ble a b = true := Nat.ble_eq.mpr h
theorem ble_f {a b : Nat} (h : b < a) : Nat.ble a b = false := by
  cases e : Nat.ble a b with
  | true => exact absurd (Nat.ble_eq.mp e) (by omega)
  | false => rfl
theorem cm_dm {u k : Nat} (h : u ≤ k) : ∀ f k2 j, dm u f k2 j = false → cm k f k2 j = false := by
  intro f k2 j h2
  by_cases c : k2 = k
  · subst c
    unfold dm at h2
    rw [ble_t h, Bool.and_true, Bool.or_eq_false_iff] at h2
    have h3 := h2.2
    unfold cm
    simp only [Bool.or_eq_false_iff] at h3
    rw [h3.1, h3.2.1, h3.2.2]
    rfl
  · unfold cm
    have : (k2 == k) = false := by simp [c]
    rw [this]
    simp
theorem tk_dm {u u2 : Nat} (h : u ≤ u2) : ∀ f k2 j, dm u f k2 j = false → tkm u2 f k2 j = false := by
  intro f k2 j h2
  unfold dm at h2
  rw [Bool.or_eq_false_iff] at h2
  unfold tkm
  rw [h2.1, Bool.false_or]
  by_cases c : k2 = u2
  · subst c
    have h3 := h2.2
    rw [ble_t h, Bool.and_true, Bool.or_eq_false_iff] at h3
    rw [h3.1]
    rfl
  · have : (k2 == u2) = false := by simp [c]
    rw [this]
    simp
theorem dm_dm {u u2 : Nat} (h : u ≤ u2) : ∀ f k2 j, dm u f k2 j = false → dm u2 f k2 j = false := by
  intro f k2 j h2
  unfold dm at h2 ⊢
  rw [Bool.or_eq_false_iff] at h2
  rw [h2.1, Bool.false_or]
  by_cases c : u2 ≤ k2
  · have h3 := h2.2
    rw [ble_t (show u ≤ k2 by omega), Bool.and_true] at h3
    rw [h3]
    rfl
  · rw [ble_f (by omega), Bool.and_false]
/-- odds taken before stay -/
theorem dm_lo {u k f : Nat} (h : k < u) (hf : f ≠ 0) (j : Nat) : dm u f k j = false := by
  unfold dm
  rw [ble_f h, Bool.and_false, Bool.or_false]
  have : (f == 0) = false := by simp [hf]
  rw [this]; rfl
theorem dm_far {u k f : Nat} (hf : 5 ≤ f) (j : Nat) : dm u f k j = false := by
  unfold dm
  have a1 : (f == 0) = false := by simp; omega
  have a2 : (f == 1) = false := by simp; omega
  have a3 : (f == 3) = false := by simp; omega
  have a4 : (f == 4) = false := by simp; omega
  rw [a1, a2, a3, a4]; rfl
theorem oG.part {A : mA} {k : Nat} {T j : Int} (h : oG A k T) (h0 : 0 ≤ j) (hj : j < A 1 k 2) : 0 ≤ ws (A 4 k) 0 j.toNat ∧ 1 ≤ A 4 k j.toNat ∧ ws (A 4 k) 0 j.toNat + A 4 k j.toNat ≤ T ∧ ws (A 4 k) 0 (j + 1).toNat = ws (A 4 k) 0 j.toNat + A 4 k j.toNat := by
  have e : (j + 1).toNat = j.toNat + 1 := by omega
  have e1 : ws (A 4 k) 0 (j + 1).toNat = ws (A 4 k) 0 j.toNat + A 4 k j.toNat := by
    rw [e]
    show _ + A 4 k (0 + j.toNat) = _
    rw [Nat.zero_add]
  have n0 := ws_nn (w := A 4 k) j.toNat (fun v hv => h.1 v (by omega))
  have key : ∀ n m : Nat, (∀ v, v < n + m → 1 ≤ A 4 k v) → ws (A 4 k) 0 n ≤ ws (A 4 k) 0 (n + m) := by
    intro n m
    induction m with
    | zero => intro _; exact Int.le_refl _
    | succ m ih =>
      intro hv
      have := ih (fun v q => hv v (by omega))
      have h9 := hv (n + m) (by omega)
      show ws (A 4 k) 0 n ≤ ws (A 4 k) 0 (n + m) + A 4 k (0 + (n + m))
      rw [Nat.zero_add]
      omega
  have h2 := key (j.toNat + 1) ((A 1 k 2).toNat - (j.toNat + 1)) (fun v hv => h.1 v (by omega))
  rw [show j.toNat + 1 + ((A 1 k 2).toNat - (j.toNat + 1)) = (A 1 k 2).toNat by omega] at h2
  rw [← e, e1] at h2
  have h3 := h.2
  exact ⟨by omega, h.1 j.toNat (by omega), by omega, e1⟩
theorem ws_le (w : Nat → Int) (h : ∀ v, 0 ≤ w v) (fl : Nat) : ∀ n m : Nat, n ≤ m → ws w fl n ≤ ws w fl m
  | n, 0, hm => by
    have : n = 0 := by omega
    subst this; exact Int.le_refl _
  | n, m + 1, hm => by
    by_cases c : n = m + 1
    · subst c; exact Int.le_refl _
    · have := ws_le w h fl n m (by omega)
      have h2 := h (fl + m)
      show ws w fl n ≤ ws w fl m + w (fl + m)
      omega
/-- a weight's share by lots -/
theorem dr_ok {w al q s lw : Int} (hw : 1 ≤ w) (ha : 1 ≤ al) (hq : q = Int.tdiv w al) (hs : 0 ≤ s) (hl : 0 ≤ lw) (hle : s + lw ≤ al) : 0 ≤ q * lw ∧ q * s + q * lw = q * (s + lw) ∧ q * (s + lw) ≤ w ∧ 0 ≤ q ∧ q ≤ w ∧ 0 ≤ q * s := by
  have e : q = w / al := by rw [hq]; exact Int.tdiv_eq_ediv_of_nonneg (by omega)
  have q0 : 0 ≤ q := by rw [e]; exact Int.ediv_nonneg (by omega) (by omega)
  have h1 : q * (s + lw) ≤ q * al := Int.mul_le_mul_of_nonneg_left hle q0
  have h2 : q * al ≤ w := by rw [e]; exact Int.ediv_mul_le w (by omega)
  have h3 : q ≤ w := by rw [e]; exact Int.ediv_le_self al (by omega)
  exact ⟨Int.mul_nonneg q0 hl, (Int.mul_add q s lw).symm, by omega, q0, h3, Int.mul_nonneg q0 hs⟩
theorem f_q_taken_0_1 : mblkB b_Mo_taken_0 [(0, .aload_n 0, vi 0)] = true := by decide +kernel
theorem e_q_taken_1 : decode b_Mo_taken_0 1 = .ok (.getfield 81, 3) := by decide +kernel
theorem f_q_taken_4_1 : mblkB b_Mo_taken_0 [(4, .aload_n 0, vi 0)] = true := by decide +kernel
theorem e_q_taken_5 : decode b_Mo_taken_0 5 = .ok (.getfield 269, 3) := by decide +kernel
theorem e_q_taken_8 : decode b_Mo_taken_0 8 = .ok (.aaload, 1) := by decide +kernel
theorem f_q_taken_9_3 : mblkB b_Mo_taken_0 [(9, .astore_n 1, vi 0), (10, .aload_n 0, vi 0), (11, .dup, vi 0)] = true := by decide +kernel
theorem e_q_taken_12 : decode b_Mo_taken_0 12 = .ok (.getfield 269, 3) := by decide +kernel
theorem f_q_taken_15_2 : mblkB b_Mo_taken_0 [(15, .iconst 1, vi 1), (16, .iadd, vi 0)] = true := by decide +kernel
theorem e_q_taken_17 : decode b_Mo_taken_0 17 = .ok (.putfield 269, 3) := by decide +kernel
theorem f_q_taken_20_2 : mblkB b_Mo_taken_0 [(20, .aload_n 1, vi 0), (21, .iconst 0, vi 0)] = true := by decide +kernel
theorem e_q_taken_22 : decode b_Mo_taken_0 22 = .ok (.putfield 272, 3) := by decide +kernel
theorem f_q_taken_25_1 : mblkB b_Mo_taken_0 [(25, .aload_n 1, vi 0)] = true := by decide +kernel
theorem e_q_taken_26 : decode b_Mo_taken_0 26 = .ok (.areturn, 1) := by decide +kernel
set_option maxHeartbeats 40000000 in
set_option maxRecDepth 100000 in
theorem q_taken (l : Launch) (D : va_G) (B : Nat) (H0 : Heap) (ad : mAd) (A : mA) (hT : mTy A) (u : Int) (hu : A 0 0 33 = u ∧ 0 ≤ u ∧ u ≤ 199)  : mMet l D B H0 ad y_Mo_taken_0 b_Mo_taken_0 2 (some (.object "ChanceStepsModel$Odds")) 0 0 [vr 0 0] A (fun v9 A9 => ∃ z : Nat, v9 = some (vr 1 z) ∧ mTy A9 ∧ mEq (tkm u.toNat) A A9 ∧ ((z : Int) = u) ∧ (A9 0 0 33 = u + 1) ∧ (A9 1 z 2 = 0)) := by
  refine m_met (by decide) rfl (fun g w0 C Rm Y E => ?_)
  have hE0 : mEq (tkm u.toNat) A A := mEq.rfl'
  show JM g D ad w0 A 0 [(0, vr 0 0)] []
  refine m_blk 1 [(0, vr 0 0)] [vr 0 0] C f_q_taken_0_1 rfl ?_
  refine m_getr C e_q_taken_1 fg_Mo_81 rfl (by decide) rfl ?_
  refine m_blk 5 [(0, vr 0 0)] [vr 0 0, vr 2 0] C f_q_taken_4_1 rfl ?_
  refine m_geti C e_q_taken_5 fg_Mo_269 rfl (by decide) rfl u hu.1 ?_
  refine m_aald C u.toNat e_q_taken_8 rfl rfl rfl (by decide) (by decide) (by omega) (by show u < ((200 : Nat) : Int); omega) (mz _ _) ?_
  refine m_blk 12 [(1, vr 1 u.toNat), (0, vr 0 0)] [vr 0 0, vr 0 0] C f_q_taken_9_3 rfl ?_
  refine m_geti C e_q_taken_12 fg_Mo_269 rfl (by decide) rfl u hu.1 ?_
  refine m_blk 17 [(1, vr 1 u.toNat), (0, vr 0 0)] [vi (u + 1), vr 0 0] C f_q_taken_15_2 rfl ?_
  refine m_puti C e_q_taken_17 fp_Mo_269 rfl (by decide) rfl ?_
  have t1 : mTy (mu A 0 0 33 (u + 1)) := hT.mu (by show 0 ≤ (u + 1) ∧ (u + 1) ≤ 200; omega)
  have q2 := hE0.mu (f := 0) (k := 0) (j := 33) (z := (u + 1)) (by simp [tkm])
  refine m_blk 22 [(1, vr 1 u.toNat), (0, vr 0 0)] [vi 0, vr 1 u.toNat] C f_q_taken_20_2 rfl ?_
  refine m_putiN C e_q_taken_22 fp_Mo_272 rfl (by omega) rfl ?_
  have t3 : mTy (mu (mu A 0 0 33 (u + 1)) 1 u.toNat 2 0) := t1.mu (by show 0 ≤ 0 ∧ 0 ≤ 301; omega)
  have q4 := q2.mu (f := 1) (k := u.toNat) (j := 2) (z := 0) (by simp [tkm])
  refine m_blk 26 [(1, vr 1 u.toNat), (0, vr 0 0)] [vr 1 u.toNat] C f_q_taken_25_1 rfl ?_
  exact m_aret C Rm E e_q_taken_26 ⟨u.toNat, rfl, t3, q4, (by show (u.toNat : Int) = u; omega), (by show (u + 1) = u + 1; omega), (mu_at _ 1 _ 2 0)⟩

theorem f_q_letO_0_1 : mblkB b_Mo_let_1 [(0, .aload_n 0, vi 0)] = true := by decide +kernel
theorem e_q_letO_1 : decode b_Mo_let_1 1 = .ok (.invokevirtual 275, 3) := by decide +kernel
theorem f_q_letO_4_3 : mblkB b_Mo_let_1 [(4, .astore 4, vi 0), (6, .iconst 0, vi 0), (7, .istore 5, vi 0)] = true := by decide +kernel
theorem f_q_letO_9_2 : mblkB b_Mo_let_1 [(9, .iload 5, vi 0), (11, .aload_n 3, vi 0)] = true := by decide +kernel
theorem e_q_letO_12 : decode b_Mo_let_1 12 = .ok (.getfield 272, 3) := by decide +kernel
theorem e_q_letO_15 : decode b_Mo_let_1 15 = .ok (.if_icmp .ge 62, 3) := by decide +kernel
theorem f_q_letO_77_1 : mblkB b_Mo_let_1 [(77, .aload 4, vi 0)] = true := by decide +kernel
theorem e_q_letO_79 : decode b_Mo_let_1 79 = .ok (.areturn, 1) := by decide +kernel
theorem f_q_letO_18_2 : mblkB b_Mo_let_1 [(18, .aload 4, vi 0), (20, .aload_n 3, vi 0)] = true := by decide +kernel
theorem e_q_letO_21 : decode b_Mo_let_1 21 = .ok (.getfield 279, 3) := by decide +kernel
theorem f_q_letO_24_1 : mblkB b_Mo_let_1 [(24, .iload 5, vi 0)] = true := by decide +kernel
theorem e_q_letO_26 : decode b_Mo_let_1 26 = .ok (.iaload, 1) := by decide +kernel
theorem f_q_letO_27_1 : mblkB b_Mo_let_1 [(27, .aload_n 0, vi 0)] = true := by decide +kernel
theorem e_q_letO_28 : decode b_Mo_let_1 28 = .ok (.getfield 24, 3) := by decide +kernel
theorem f_q_letO_31_1 : mblkB b_Mo_let_1 [(31, .iload_n 1, vi 0)] = true := by decide +kernel
theorem e_q_letO_32 : decode b_Mo_let_1 32 = .ok (.aaload, 1) := by decide +kernel
theorem f_q_letO_33_1 : mblkB b_Mo_let_1 [(33, .iload_n 2, vi 0)] = true := by decide +kernel
theorem e_q_letO_34 : decode b_Mo_let_1 34 = .ok (.iaload, 1) := by decide +kernel
theorem f_q_letO_35_3 : mblkB b_Mo_let_1 [(35, .aload_n 0, vi 0), (36, .iload_n 1, vi 0), (37, .aload_n 0, vi 0)] = true := by decide +kernel
theorem e_q_letO_38 : decode b_Mo_let_1 38 = .ok (.getfield 36, 3) := by decide +kernel
theorem f_q_letO_41_1 : mblkB b_Mo_let_1 [(41, .iload_n 1, vi 0)] = true := by decide +kernel
theorem e_q_letO_42 : decode b_Mo_let_1 42 = .ok (.aaload, 1) := by decide +kernel
theorem f_q_letO_43_1 : mblkB b_Mo_let_1 [(43, .iload_n 2, vi 0)] = true := by decide +kernel
theorem e_q_letO_44 : decode b_Mo_let_1 44 = .ok (.iaload, 1) := by decide +kernel
theorem f_q_letO_45_1 : mblkB b_Mo_let_1 [(45, .aload_n 3, vi 0)] = true := by decide +kernel
theorem e_q_letO_46 : decode b_Mo_let_1 46 = .ok (.getfield 279, 3) := by decide +kernel
theorem f_q_letO_49_1 : mblkB b_Mo_let_1 [(49, .iload 5, vi 0)] = true := by decide +kernel
theorem e_q_letO_51 : decode b_Mo_let_1 51 = .ok (.iaload, 1) := by decide +kernel
theorem e_q_letO_52 : decode b_Mo_let_1 52 = .ok (.invokevirtual 263, 3) := by decide +kernel
theorem e_q_letO_55 : decode b_Mo_let_1 55 = .ok (.invokestatic 333, 3) := by decide +kernel
theorem e_q_letO_58 : decode b_Mo_let_1 58 = .ok (.invokestatic 282, 3) := by decide +kernel
theorem f_q_letO_61_1 : mblkB b_Mo_let_1 [(61, .aload_n 3, vi 0)] = true := by decide +kernel
theorem e_q_letO_62 : decode b_Mo_let_1 62 = .ok (.getfield 285, 3) := by decide +kernel
theorem f_q_letO_65_1 : mblkB b_Mo_let_1 [(65, .iload 5, vi 0)] = true := by decide +kernel
theorem e_q_letO_67 : decode b_Mo_let_1 67 = .ok (.laload, 1) := by decide +kernel
theorem e_q_letO_68 : decode b_Mo_let_1 68 = .ok (.invokevirtual 289, 3) := by decide +kernel
theorem f_q_letO_71_2 : mblkB b_Mo_let_1 [(71, .iinc 5 1, vi 1), (74, .goto (-65), vi 9)] = true := by decide +kernel
set_option maxHeartbeats 40000000 in
set_option maxRecDepth 100000 in
theorem q_letO (l : Launch) (D : va_G) (B : Nat) (H0 : Heap) (ad : mAd) (A : mA) (hT : mTy A) (u : Int) (T : Int) (N : Int) (M : Int) (Ln : Int) (dep : Nat → Int) (p : Int) (i : Int) (ki : Nat) (hp : 0 ≤ p ∧ p ≤ 5) (hK : pK A p.toNat N M Ln dep) (hi : 0 ≤ i ∧ i < N) (hu : A 0 0 33 = u ∧ 0 ≤ u ∧ u ≤ 199) (hk : (ki : Int) < u) (hO : oG A ki T) (hT9 : 0 ≤ T ∧ T ≤ 1125899906842624) (hkd : A 34 p.toNat i.toNat = 1)  : mMet l D B H0 ad y_Mo_let_1 b_Mo_let_1 6 (some (.object "ChanceStepsModel$Odds")) 130 3800 [vr 0 0, vi p, vi i, vr 1 ki] A (fun v9 A9 => ∃ z : Nat, v9 = some (vr 1 z) ∧ mTy A9 ∧ mEq (dm u.toNat) A A9 ∧ ((z : Int) = u) ∧ (A9 0 0 33 = u + 1) ∧ (oG A9 z T)) := by
  refine m_met (by decide) rfl (fun g w0 C Rm Y E => ?_)
  have hE0 : mEq (dm u.toNat) A A := mEq.rfl'
  show JM g D ad w0 A 0 [(0, vr 0 0), (1, vi p), (2, vi i), (3, vr 1 ki)] []
  have rk9 : 0 ≤ A 1 ki 2 ∧ A 1 ki 2 ≤ 301 := hT 1 ki 2
  obtain ⟨SJ, hSJ⟩ : ∃ f : Int → Int, ∀ j, f j = ws (A 4 ki) 0 (Int.toNat j) := ⟨_, fun _ => rfl⟩
  refine m_blk 1 [(0, vr 0 0), (1, vi p), (2, vi i), (3, vr 1 ki)] [vr 0 0] C f_q_letO_0_1 rfl ?_
  refine m_callV C Rm Y [] [] (q_taken l D B H0 ad _ hT u (by show A 0 0 33 = u ∧ 0 ≤ u ∧ u ≤ 199; omega)) cl_Mo_275 rfl (by decide) rfl rfl e_q_letO_1 rfl rfl rfl ⟨by decide, by decide⟩ ?_
  rintro v1 A2 ⟨z5, rfl, hT_n4, hE_n4, raw_hz_n4, raw_hu_n4, raw_hm_n4⟩
  have hF_n4 := hE0.trans (hE_n4.sub (tk_dm (by omega)))
  have hz_n4 : (z5 : Int) = u := raw_hz_n4
  clear raw_hz_n4
  have hu_n4 : A2 0 0 33 = u + 1 := raw_hu_n4
  clear raw_hu_n4
  have hm_n4 : A2 1 z5 2 = 0 := raw_hm_n4
  clear raw_hm_n4
  show JM g D ad w0 A2 4 [(0, vr 0 0), (1, vi p), (2, vi i), (3, vr 1 ki)] [vr 1 z5]
  refine m_blk 9 [(5, vi 0), (4, vr 1 z5), (0, vr 0 0), (1, vi p), (2, vi i), (3, vr 1 ki)] [] C f_q_letO_4_3 rfl ?_
  have hd_9 : ∀ (NZ : Nat) (A2 : mA) (j : Int), mTy A2 → mEq (dm u.toNat) A A2 → oG A2 z5 (SJ j) → 0 ≤ j ∧ j ≤ A 1 ki 2 ∧ A 1 ki 2 ≤ 301 → A2 0 0 33 = u + 1 → (400 - j) < (NZ : Int) → JM g D ad w0 A2 9 [(5, vi j), (4, vr 1 z5), (0, vr 0 0), (1, vi p), (2, vi i), (3, vr 1 ki)] [] := by
    intro NZ
    induction NZ with
    | zero => intro A2 j hT2 hE2 hO2 hj hu2 hm9; exact absurd hm9 (by omega)
    | succ NZ ih9 =>
      intro A2 j hT2 hE2 hO2 hj hu2 hm9
      have w9 : A2 1 ki 2 = A 1 ki 2 := hE2 1 ki 2 (dm_lo (by omega) (by decide) 2)
      have rmT : ∀ f9 j9, f9 ≠ 0 → A2 f9 ki j9 = A f9 ki j9 := fun f9 j9 h9 => hE2 f9 ki j9 (dm_lo (by omega) h9 j9)
      have far : ∀ f9 k9 j9, 5 ≤ f9 → A2 f9 k9 j9 = A f9 k9 j9 := fun f9 k9 j9 h9 => hE2 f9 k9 j9 (dm_far h9 j9)
      have K2 : pK A2 p.toNat N M Ln dep := hK.fam (fun f9 h8 h9 => funext fun j9 => far f9 p.toNat j9 (by omega))
      have hs9 := K2.at (i := i) (by omega) (by omega)
      have ht9 := hs9.tp
      have hr9 := K2.rng
      refine m_blk 12 [(5, vi j), (4, vr 1 z5), (0, vr 0 0), (1, vi p), (2, vi i), (3, vr 1 ki)] [vr 1 ki, vi j] C f_q_letO_9_2 rfl ?_
      obtain ⟨x6, hx6⟩ : ∃ x, A2 1 ki 2 = x := ⟨_, rfl⟩
      have rx6 : 0 ≤ x6 ∧ x6 ≤ 301 := mrg hT2 hx6 rfl
      refine m_getiN C e_q_letO_12 fg_Mo_272 rfl (by omega) rfl x6 hx6 ?_
      refine m_icmp_ge (tgt := 77) C e_q_letO_15 (by decide) (by omega) (by omega) (fun c7 => ?_) (fun c7 => ?_)
      · refine m_blk 79 [(5, vi j), (4, vr 1 z5), (0, vr 0 0), (1, vi p), (2, vi i), (3, vr 1 ki)] [vr 1 z5] C f_q_letO_77_1 rfl ?_
        exact m_aret C Rm E e_q_letO_79 ⟨z5, rfl, hT2, hE2, (by show (z5 : Int) = u; omega), (by show A2 0 0 33 = u + 1; omega), (hO2.le (by have e9 : j = A 1 ki 2 := (by omega); rw [hSJ, e9]; exact (hO.tot (by omega)).2))⟩
      · have h34 : A2 34 p.toNat i.toNat = 1 := (far 34 p.toNat i.toNat (by decide)).trans hkd
        have ht0 := hs9.t0 (Or.inl h34)
        refine m_blk 21 [(5, vi j), (4, vr 1 z5), (0, vr 0 0), (1, vi p), (2, vi i), (3, vr 1 ki)] [vr 1 ki, vr 1 z5] C f_q_letO_18_2 rfl ?_
        refine m_getrN C e_q_letO_21 fg_Mo_279 rfl (by omega) rfl ?_
        refine m_blk 26 [(5, vi j), (4, vr 1 z5), (0, vr 0 0), (1, vi p), (2, vi i), (3, vr 1 ki)] [vi j, vr 3 ki, vr 1 z5] C f_q_letO_24_1 rfl ?_
        obtain ⟨x8, hx8⟩ : ∃ x, A2 3 ki j.toNat = x := ⟨_, rfl⟩
        have rx8 : 0 ≤ x8 ∧ x8 ≤ 9999999 := mrg hT2 hx8 rfl
        refine m_iald C e_q_letO_26 rfl (by omega) (by decide) (by omega) (by show j < ((301 : Nat) : Int); omega) x8 hx8 ?_
        refine m_blk 28 [(5, vi j), (4, vr 1 z5), (0, vr 0 0), (1, vi p), (2, vi i), (3, vr 1 ki)] [vr 0 0, vi x8, vr 1 z5] C f_q_letO_27_1 rfl ?_
        refine m_getr C e_q_letO_28 fg_Mo_24 rfl (by decide) rfl ?_
        refine m_blk 32 [(5, vi j), (4, vr 1 z5), (0, vr 0 0), (1, vi p), (2, vi i), (3, vr 1 ki)] [vi p, vr 15 0, vi x8, vr 1 z5] C f_q_letO_31_1 rfl ?_
        refine m_aald C p.toNat e_q_letO_32 rfl rfl rfl (by decide) (by decide) (by omega) (by show p < ((6 : Nat) : Int); omega) (mz _ _) ?_
        refine m_blk 34 [(5, vi j), (4, vr 1 z5), (0, vr 0 0), (1, vi p), (2, vi i), (3, vr 1 ki)] [vi i, vr 35 p.toNat, vi x8, vr 1 z5] C f_q_letO_33_1 rfl ?_
        obtain ⟨x9, hx9⟩ : ∃ x, A2 35 p.toNat i.toNat = x := ⟨_, rfl⟩
        have rx9 : (-1) ≤ x9 ∧ x9 ≤ 5 := mrg hT2 hx9 rfl
        refine m_iald C e_q_letO_34 rfl (by omega) (by decide) (by omega) (by show i < ((16 : Nat) : Int); omega) x9 hx9 ?_
        refine m_blk 38 [(5, vi j), (4, vr 1 z5), (0, vr 0 0), (1, vi p), (2, vi i), (3, vr 1 ki)] [vr 0 0, vi p, vr 0 0, vi x9, vi x8, vr 1 z5] C f_q_letO_35_3 rfl ?_
        refine m_getr C e_q_letO_38 fg_Mo_36 rfl (by decide) rfl ?_
        refine m_blk 42 [(5, vi j), (4, vr 1 z5), (0, vr 0 0), (1, vi p), (2, vi i), (3, vr 1 ki)] [vi p, vr 19 0, vi p, vr 0 0, vi x9, vi x8, vr 1 z5] C f_q_letO_41_1 rfl ?_
        refine m_aald C p.toNat e_q_letO_42 rfl rfl rfl (by decide) (by decide) (by omega) (by show p < ((6 : Nat) : Int); omega) (mz _ _) ?_
        refine m_blk 44 [(5, vi j), (4, vr 1 z5), (0, vr 0 0), (1, vi p), (2, vi i), (3, vr 1 ki)] [vi i, vr 39 p.toNat, vi p, vr 0 0, vi x9, vi x8, vr 1 z5] C f_q_letO_43_1 rfl ?_
        obtain ⟨x10, hx10⟩ : ∃ x, A2 39 p.toNat i.toNat = x := ⟨_, rfl⟩
        have rx10 : (-1) ≤ x10 ∧ x10 ≤ 119 := mrg hT2 hx10 rfl
        refine m_iald C e_q_letO_44 rfl (by omega) (by decide) (by omega) (by show i < ((16 : Nat) : Int); omega) x10 hx10 ?_
        refine m_blk 46 [(5, vi j), (4, vr 1 z5), (0, vr 0 0), (1, vi p), (2, vi i), (3, vr 1 ki)] [vr 1 ki, vi x10, vi p, vr 0 0, vi x9, vi x8, vr 1 z5] C f_q_letO_45_1 rfl ?_
        refine m_getrN C e_q_letO_46 fg_Mo_279 rfl (by omega) rfl ?_
        refine m_blk 51 [(5, vi j), (4, vr 1 z5), (0, vr 0 0), (1, vi p), (2, vi i), (3, vr 1 ki)] [vi j, vr 3 ki, vi x10, vi p, vr 0 0, vi x9, vi x8, vr 1 z5] C f_q_letO_49_1 rfl ?_
        refine m_iald C e_q_letO_51 rfl (by omega) (by decide) (by omega) (by show j < ((301 : Nat) : Int); omega) x8 hx8 ?_
        refine m_callV C Rm Y [vi p, vi x10, vi x8] [vi x9, vi x8, vr 1 z5] ((q_worth_ 120) l D B H0 ad _ hT2 M p x10 x8 K2.2.2.2.2 (by show 0 ≤ p ∧ p ≤ 5 ∧ M ≤ 120; omega) (by show 0 ≤ x10 ∧ x10 < M ∧ x10 < ((120 : Nat) : Int); omega) (by show 0 ≤ x8 ∧ x8 ≤ 9999999; omega)) cl_Mo_263 rfl (by decide) rfl rfl e_q_letO_52 rfl rfl rfl ⟨by decide, by decide⟩ ?_
        rintro v11 A12 ⟨z15, rfl, rfl, raw_hz_n14⟩
        have hz_n14 : -2147483648 ≤ z15 ∧ z15 ≤ 2147483647 := raw_hz_n14
        clear raw_hz_n14
        show JM g D ad w0 A2 55 [(5, vi j), (4, vr 1 z5), (0, vr 0 0), (1, vi p), (2, vi i), (3, vr 1 ki)] [vi z15, vi x9, vi x8, vr 1 z5]
        refine m_callS C Rm Y [vi z15] [vi x9, vi x8, vr 1 z5] (q_digit l D B H0 ad _ z15 (by show -2147483648 ≤ z15 ∧ z15 ≤ 2147483647; omega)) cl_Mo_333 e_q_letO_55 rfl rfl rfl ⟨by decide, by decide⟩ ?_
        rintro v16 A17 ⟨z20, rfl, rfl, raw_hz_n19⟩
        have hz_n19 : z20 = z15 % 10 ∧ 0 ≤ z20 ∧ z20 ≤ 9 := raw_hz_n19
        clear raw_hz_n19
        show JM g D ad w0 A2 58 [(5, vi j), (4, vr 1 z5), (0, vr 0 0), (1, vi p), (2, vi i), (3, vr 1 ki)] [vi z20, vi x9, vi x8, vr 1 z5]
        refine m_callS C Rm Y [vi x8, vi x9, vi z20] [vr 1 z5] (q_with l D B H0 ad _ x8 x9 z20 (by show 0 ≤ x8 ∧ x8 ≤ 9999999; omega) (by show -1 ≤ x9 ∧ x9 ≤ 5; omega) (by show 0 ≤ z20 ∧ z20 ≤ 9; omega)) cl_Mo_282 e_q_letO_58 rfl rfl rfl ⟨by decide, by decide⟩ ?_
        rintro v21 A22 ⟨z25, rfl, rfl, raw_hz_n24⟩
        have hz_n24 : z25 = x8 + (z20 - dg x8 x9) * tnF x9 ∧ 0 ≤ z25 ∧ z25 ≤ 9999999 := raw_hz_n24
        clear raw_hz_n24
        show JM g D ad w0 A2 61 [(5, vi j), (4, vr 1 z5), (0, vr 0 0), (1, vi p), (2, vi i), (3, vr 1 ki)] [vi z25, vr 1 z5]
        refine m_blk 62 [(5, vi j), (4, vr 1 z5), (0, vr 0 0), (1, vi p), (2, vi i), (3, vr 1 ki)] [vr 1 ki, vi z25, vr 1 z5] C f_q_letO_61_1 rfl ?_
        refine m_getrN C e_q_letO_62 fg_Mo_285 rfl (by omega) rfl ?_
        refine m_blk 67 [(5, vi j), (4, vr 1 z5), (0, vr 0 0), (1, vi p), (2, vi i), (3, vr 1 ki)] [vi j, vr 4 ki, vi z25, vr 1 z5] C f_q_letO_65_1 rfl ?_
        obtain ⟨x26, hx26⟩ : ∃ x, A2 4 ki j.toNat = x := ⟨_, rfl⟩
        have rx26 : (-9223372036854775808) ≤ x26 ∧ x26 ≤ 9223372036854775807 := mrg hT2 hx26 rfl
        have pw9 : 0 ≤ SJ j ∧ 1 ≤ A 4 ki (Int.toNat j) ∧ SJ j + A 4 ki (Int.toNat j) ≤ T ∧ SJ (j + 1) = SJ j + A 4 ki (Int.toNat j) := by rw [hSJ, hSJ]; exact hO.part (j := j) (by omega) (by omega)
        have ew9 : A 4 ki (Int.toNat j) = x26 := (rmT 4 (Int.toNat j) (by decide)).symm.trans hx26
        rw [ew9] at pw9
        refine m_lald C e_q_letO_67 rfl (by omega) (by decide) (by omega) (by show j < ((301 : Nat) : Int); omega) x26 hx26 ?_
        refine m_callV C Rm Y [vi z25, vl x26] [] (q_come l D B H0 ad _ hT2 z5 (SJ j) z25 x26 (by show z5 < 200; omega) hO2 (by show 0 ≤ z25 ∧ z25 ≤ 9999999; omega) (by show 0 ≤ x26 ∧ 0 ≤ (SJ j) ∧ (SJ j) + x26 ≤ 1125899906842624; omega)) cl_Mo_289 rfl (by omega) rfl rfl e_q_letO_68 rfl rfl rfl ⟨by decide, by decide⟩ ?_
        rintro v27 A28 ⟨rfl, hT_n30, hE_n30, raw_hO_n30⟩
        have hF_n30 := hE2.trans (hE_n30.sub (cm_dm (by omega)))
        have hO_n30 : oG A28 z5 ((SJ j) + x26) := raw_hO_n30
        clear raw_hO_n30
        show JM g D ad w0 A28 71 [(5, vi j), (4, vr 1 z5), (0, vr 0 0), (1, vi p), (2, vi i), (3, vr 1 ki)] []
        have ku_n30 : A28 0 0 33 = u + 1 := (hE_n30 0 0 33 rfl).trans hu2
        refine m_blk 9 [(5, vi (j + 1)), (4, vr 1 z5), (0, vr 0 0), (1, vi p), (2, vi i), (3, vr 1 ki)] [] C f_q_letO_71_2 rfl ?_
        refine m_loc [(5, vi (j + 1)), (4, vr 1 z5), (0, vr 0 0), (1, vi p), (2, vi i), (3, vr 1 ki)] ⟨rfl, rfl, rfl, rfl, rfl, rfl, trivial⟩ ?_
        exact ih9 A28 (j + 1) hT_n30 hF_n30 (by rw [pw9.2.2.2]; exact hO_n30) (by show 0 ≤ (j + 1) ∧ (j + 1) ≤ A 1 ki 2 ∧ A 1 ki 2 ≤ 301; omega) (by show A28 0 0 33 = u + 1; omega) (by show (400 - (j + 1)) < _; omega)
  refine m_loc [(5, vi 0), (4, vr 1 z5), (0, vr 0 0), (1, vi p), (2, vi i), (3, vr 1 ki)] ⟨rfl, rfl, rfl, rfl, rfl, rfl, trivial⟩ ?_
  exact hd_9 (Int.toNat ((400 - 0)) + 1) A2 0 hT_n4 hF_n4 (by rw [hSJ]; exact oG.nil hm_n4) (by show 0 ≤ 0 ∧ 0 ≤ A 1 ki 2 ∧ A 1 ki 2 ≤ 301; omega) (by show A2 0 0 33 = u + 1; omega) (by show (400 - 0) < _; omega)

theorem f_q_split_0_1 : mblkB b_Mo_split [(0, .aload_n 0, vi 0)] = true := by decide +kernel
theorem e_q_split_1 : decode b_Mo_split 1 = .ok (.invokevirtual 275, 3) := by decide +kernel
theorem f_q_split_4_3 : mblkB b_Mo_split [(4, .astore 5, vi 0), (6, .iconst 0, vi 0), (7, .istore 6, vi 0)] = true := by decide +kernel
theorem f_q_split_9_2 : mblkB b_Mo_split [(9, .iload 6, vi 0), (11, .aload_n 3, vi 0)] = true := by decide +kernel
theorem e_q_split_12 : decode b_Mo_split 12 = .ok (.getfield 272, 3) := by decide +kernel
theorem e_q_split_15 : decode b_Mo_split 15 = .ok (.if_icmp .ge 61, 3) := by decide +kernel
theorem f_q_split_76_1 : mblkB b_Mo_split [(76, .aload 5, vi 0)] = true := by decide +kernel
theorem e_q_split_78 : decode b_Mo_split 78 = .ok (.areturn, 1) := by decide +kernel
theorem f_q_split_18_3 : mblkB b_Mo_split [(18, .aload_n 0, vi 0), (19, .iload_n 1, vi 0), (20, .aload_n 0, vi 0)] = true := by decide +kernel
theorem e_q_split_21 : decode b_Mo_split 21 = .ok (.getfield 36, 3) := by decide +kernel
theorem f_q_split_24_1 : mblkB b_Mo_split [(24, .iload_n 1, vi 0)] = true := by decide +kernel
theorem e_q_split_25 : decode b_Mo_split 25 = .ok (.aaload, 1) := by decide +kernel
theorem f_q_split_26_1 : mblkB b_Mo_split [(26, .iload_n 2, vi 0)] = true := by decide +kernel
theorem e_q_split_27 : decode b_Mo_split 27 = .ok (.iaload, 1) := by decide +kernel
theorem f_q_split_28_1 : mblkB b_Mo_split [(28, .aload_n 3, vi 0)] = true := by decide +kernel
theorem e_q_split_29 : decode b_Mo_split 29 = .ok (.getfield 279, 3) := by decide +kernel
theorem f_q_split_32_1 : mblkB b_Mo_split [(32, .iload 6, vi 0)] = true := by decide +kernel
theorem e_q_split_34 : decode b_Mo_split 34 = .ok (.iaload, 1) := by decide +kernel
theorem e_q_split_35 : decode b_Mo_split 35 = .ok (.invokevirtual 263, 3) := by decide +kernel
theorem e_q_split_38 : decode b_Mo_split 38 = .ok (.ifCond .eq 7, 3) := by decide +kernel
theorem f_q_split_45_2 : mblkB b_Mo_split [(45, .iconst 0, vi 0), (46, .iload 4, vi 0)] = true := by decide +kernel
theorem e_q_split_48 : decode b_Mo_split 48 = .ok (.if_icmp .ne 22, 3) := by decide +kernel
theorem f_q_split_70_2 : mblkB b_Mo_split [(70, .iinc 6 1, vi 1), (73, .goto (-64), vi 9)] = true := by decide +kernel
theorem f_q_split_51_2 : mblkB b_Mo_split [(51, .aload 5, vi 0), (53, .aload_n 3, vi 0)] = true := by decide +kernel
theorem e_q_split_54 : decode b_Mo_split 54 = .ok (.getfield 279, 3) := by decide +kernel
theorem f_q_split_57_1 : mblkB b_Mo_split [(57, .iload 6, vi 0)] = true := by decide +kernel
theorem e_q_split_59 : decode b_Mo_split 59 = .ok (.iaload, 1) := by decide +kernel
theorem f_q_split_60_1 : mblkB b_Mo_split [(60, .aload_n 3, vi 0)] = true := by decide +kernel
theorem e_q_split_61 : decode b_Mo_split 61 = .ok (.getfield 285, 3) := by decide +kernel
theorem f_q_split_64_1 : mblkB b_Mo_split [(64, .iload 6, vi 0)] = true := by decide +kernel
theorem e_q_split_66 : decode b_Mo_split 66 = .ok (.laload, 1) := by decide +kernel
theorem e_q_split_67 : decode b_Mo_split 67 = .ok (.invokevirtual 289, 3) := by decide +kernel
theorem f_q_split_41_2 : mblkB b_Mo_split [(41, .iconst 1, vi 1), (42, .goto 4, vi 46)] = true := by decide +kernel
theorem f_q_split_46_1 : mblkB b_Mo_split [(46, .iload 4, vi 0)] = true := by decide +kernel
set_option maxHeartbeats 40000000 in
set_option maxRecDepth 100000 in
theorem q_split (l : Launch) (D : va_G) (B : Nat) (H0 : Heap) (ad : mAd) (A : mA) (hT : mTy A) (u : Int) (T : Int) (N : Int) (M : Int) (Ln : Int) (dep : Nat → Int) (p : Int) (i : Int) (ki : Nat) (so : Int) (hp : 0 ≤ p ∧ p ≤ 5) (hK : pK A p.toNat N M Ln dep) (hi : 0 ≤ i ∧ i < N) (hu : A 0 0 33 = u ∧ 0 ≤ u ∧ u ≤ 199) (hk : (ki : Int) < u) (hO : oG A ki T) (hT9 : 0 ≤ T ∧ T ≤ 1125899906842624) (hkd : A 34 p.toNat i.toNat = 2 ∨ A 34 p.toNat i.toNat = 3) (hso : so = 0 ∨ so = 1)  : mMet l D B H0 ad y_Mo_split b_Mo_split 7 (some (.object "ChanceStepsModel$Odds")) 130 3800 [vr 0 0, vi p, vi i, vr 1 ki, vi so] A (fun v9 A9 => ∃ z : Nat, v9 = some (vr 1 z) ∧ mTy A9 ∧ mEq (dm u.toNat) A A9 ∧ ((z : Int) = u) ∧ (A9 0 0 33 = u + 1) ∧ (oG A9 z T)) := by
  refine m_met (by decide) rfl (fun g w0 C Rm Y E => ?_)
  have hE0 : mEq (dm u.toNat) A A := mEq.rfl'
  show JM g D ad w0 A 0 [(0, vr 0 0), (1, vi p), (2, vi i), (3, vr 1 ki), (4, vi so)] []
  have rk9 : 0 ≤ A 1 ki 2 ∧ A 1 ki 2 ≤ 301 := hT 1 ki 2
  obtain ⟨SJ, hSJ⟩ : ∃ f : Int → Int, ∀ j, f j = ws (A 4 ki) 0 (Int.toNat j) := ⟨_, fun _ => rfl⟩
  refine m_blk 1 [(0, vr 0 0), (1, vi p), (2, vi i), (3, vr 1 ki), (4, vi so)] [vr 0 0] C f_q_split_0_1 rfl ?_
  refine m_callV C Rm Y [] [] (q_taken l D B H0 ad _ hT u (by show A 0 0 33 = u ∧ 0 ≤ u ∧ u ≤ 199; omega)) cl_Mo_275 rfl (by decide) rfl rfl e_q_split_1 rfl rfl rfl ⟨by decide, by decide⟩ ?_
  rintro v1 A2 ⟨z5, rfl, hT_n4, hE_n4, raw_hz_n4, raw_hu_n4, raw_hm_n4⟩
  have hF_n4 := hE0.trans (hE_n4.sub (tk_dm (by omega)))
  have hz_n4 : (z5 : Int) = u := raw_hz_n4
  clear raw_hz_n4
  have hu_n4 : A2 0 0 33 = u + 1 := raw_hu_n4
  clear raw_hu_n4
  have hm_n4 : A2 1 z5 2 = 0 := raw_hm_n4
  clear raw_hm_n4
  show JM g D ad w0 A2 4 [(0, vr 0 0), (1, vi p), (2, vi i), (3, vr 1 ki), (4, vi so)] [vr 1 z5]
  refine m_blk 9 [(6, vi 0), (5, vr 1 z5), (0, vr 0 0), (1, vi p), (2, vi i), (3, vr 1 ki), (4, vi so)] [] C f_q_split_4_3 rfl ?_
  have hd_9 : ∀ (NZ : Nat) (A2 : mA) (j : Int), mTy A2 → mEq (dm u.toNat) A A2 → oG A2 z5 (SJ j) → 0 ≤ j ∧ j ≤ A 1 ki 2 ∧ A 1 ki 2 ≤ 301 → A2 0 0 33 = u + 1 → (400 - j) < (NZ : Int) → JM g D ad w0 A2 9 [(6, vi j), (5, vr 1 z5), (0, vr 0 0), (1, vi p), (2, vi i), (3, vr 1 ki), (4, vi so)] [] := by
    intro NZ
    induction NZ with
    | zero => intro A2 j hT2 hE2 hO2 hj hu2 hm9; exact absurd hm9 (by omega)
    | succ NZ ih9 =>
      intro A2 j hT2 hE2 hO2 hj hu2 hm9
      have w9 : A2 1 ki 2 = A 1 ki 2 := hE2 1 ki 2 (dm_lo (by omega) (by decide) 2)
      have rmT : ∀ f9 j9, f9 ≠ 0 → A2 f9 ki j9 = A f9 ki j9 := fun f9 j9 h9 => hE2 f9 ki j9 (dm_lo (by omega) h9 j9)
      have far : ∀ f9 k9 j9, 5 ≤ f9 → A2 f9 k9 j9 = A f9 k9 j9 := fun f9 k9 j9 h9 => hE2 f9 k9 j9 (dm_far h9 j9)
      have K2 : pK A2 p.toNat N M Ln dep := hK.fam (fun f9 h8 h9 => funext fun j9 => far f9 p.toNat j9 (by omega))
      have hs9 := K2.at (i := i) (by omega) (by omega)
      have ht9 := hs9.tp
      have hr9 := K2.rng
      refine m_blk 12 [(6, vi j), (5, vr 1 z5), (0, vr 0 0), (1, vi p), (2, vi i), (3, vr 1 ki), (4, vi so)] [vr 1 ki, vi j] C f_q_split_9_2 rfl ?_
      obtain ⟨x6, hx6⟩ : ∃ x, A2 1 ki 2 = x := ⟨_, rfl⟩
      have rx6 : 0 ≤ x6 ∧ x6 ≤ 301 := mrg hT2 hx6 rfl
      refine m_getiN C e_q_split_12 fg_Mo_272 rfl (by omega) rfl x6 hx6 ?_
      refine m_icmp_ge (tgt := 76) C e_q_split_15 (by decide) (by omega) (by omega) (fun c7 => ?_) (fun c7 => ?_)
      · refine m_blk 78 [(6, vi j), (5, vr 1 z5), (0, vr 0 0), (1, vi p), (2, vi i), (3, vr 1 ki), (4, vi so)] [vr 1 z5] C f_q_split_76_1 rfl ?_
        exact m_aret C Rm E e_q_split_78 ⟨z5, rfl, hT2, hE2, (by show (z5 : Int) = u; omega), (by show A2 0 0 33 = u + 1; omega), (hO2.le (by have e9 : j = A 1 ki 2 := (by omega); rw [hSJ, e9]; exact (hO.tot (by omega)).2))⟩
      · have h34 : A2 34 p.toNat i.toNat = 2 ∨ A2 34 p.toNat i.toNat = 3 := by rw [far 34 p.toNat i.toNat (by decide)]; exact hkd
        have ht0 := hs9.t0 (by omega)
        have pw8 : 0 ≤ SJ j ∧ 1 ≤ A 4 ki (Int.toNat j) ∧ SJ j + A 4 ki (Int.toNat j) ≤ T ∧ SJ (j + 1) = SJ j + A 4 ki (Int.toNat j) := by rw [hSJ, hSJ]; exact hO.part (j := j) (by omega) (by omega)
        refine m_blk 21 [(6, vi j), (5, vr 1 z5), (0, vr 0 0), (1, vi p), (2, vi i), (3, vr 1 ki), (4, vi so)] [vr 0 0, vi p, vr 0 0] C f_q_split_18_3 rfl ?_
        refine m_getr C e_q_split_21 fg_Mo_36 rfl (by decide) rfl ?_
        refine m_blk 25 [(6, vi j), (5, vr 1 z5), (0, vr 0 0), (1, vi p), (2, vi i), (3, vr 1 ki), (4, vi so)] [vi p, vr 19 0, vi p, vr 0 0] C f_q_split_24_1 rfl ?_
        refine m_aald C p.toNat e_q_split_25 rfl rfl rfl (by decide) (by decide) (by omega) (by show p < ((6 : Nat) : Int); omega) (mz _ _) ?_
        refine m_blk 27 [(6, vi j), (5, vr 1 z5), (0, vr 0 0), (1, vi p), (2, vi i), (3, vr 1 ki), (4, vi so)] [vi i, vr 39 p.toNat, vi p, vr 0 0] C f_q_split_26_1 rfl ?_
        obtain ⟨x8, hx8⟩ : ∃ x, A2 39 p.toNat i.toNat = x := ⟨_, rfl⟩
        have rx8 : (-1) ≤ x8 ∧ x8 ≤ 119 := mrg hT2 hx8 rfl
        refine m_iald C e_q_split_27 rfl (by omega) (by decide) (by omega) (by show i < ((16 : Nat) : Int); omega) x8 hx8 ?_
        refine m_blk 29 [(6, vi j), (5, vr 1 z5), (0, vr 0 0), (1, vi p), (2, vi i), (3, vr 1 ki), (4, vi so)] [vr 1 ki, vi x8, vi p, vr 0 0] C f_q_split_28_1 rfl ?_
        refine m_getrN C e_q_split_29 fg_Mo_279 rfl (by omega) rfl ?_
        refine m_blk 34 [(6, vi j), (5, vr 1 z5), (0, vr 0 0), (1, vi p), (2, vi i), (3, vr 1 ki), (4, vi so)] [vi j, vr 3 ki, vi x8, vi p, vr 0 0] C f_q_split_32_1 rfl ?_
        obtain ⟨x9, hx9⟩ : ∃ x, A2 3 ki j.toNat = x := ⟨_, rfl⟩
        have rx9 : 0 ≤ x9 ∧ x9 ≤ 9999999 := mrg hT2 hx9 rfl
        refine m_iald C e_q_split_34 rfl (by omega) (by decide) (by omega) (by show j < ((301 : Nat) : Int); omega) x9 hx9 ?_
        refine m_callV C Rm Y [vi p, vi x8, vi x9] [] ((q_worth_ 120) l D B H0 ad _ hT2 M p x8 x9 K2.2.2.2.2 (by show 0 ≤ p ∧ p ≤ 5 ∧ M ≤ 120; omega) (by show 0 ≤ x8 ∧ x8 < M ∧ x8 < ((120 : Nat) : Int); omega) (by show 0 ≤ x9 ∧ x9 ≤ 9999999; omega)) cl_Mo_263 rfl (by decide) rfl rfl e_q_split_35 rfl rfl rfl ⟨by decide, by decide⟩ ?_
        rintro v10 A11 ⟨z14, rfl, rfl, raw_hz_n13⟩
        have hz_n13 : -2147483648 ≤ z14 ∧ z14 ≤ 2147483647 := raw_hz_n13
        clear raw_hz_n13
        show JM g D ad w0 A2 38 [(6, vi j), (5, vr 1 z5), (0, vr 0 0), (1, vi p), (2, vi i), (3, vr 1 ki), (4, vi so)] [vi z14]
        refine m_if_eq (tgt := 45) C e_q_split_38 (by decide) (by omega) (fun c15 => ?_) (fun c15 => ?_)
        · refine m_blk 48 [(6, vi j), (5, vr 1 z5), (0, vr 0 0), (1, vi p), (2, vi i), (3, vr 1 ki), (4, vi so)] [vi so, vi 0] C f_q_split_45_2 rfl ?_
          refine m_icmp_ne (tgt := 70) C e_q_split_48 (by decide) (by decide) (by omega) (fun c16 => ?_) (fun c16 => ?_)
          · refine m_blk 9 [(6, vi (j + 1)), (5, vr 1 z5), (0, vr 0 0), (1, vi p), (2, vi i), (3, vr 1 ki), (4, vi so)] [] C f_q_split_70_2 rfl ?_
            refine m_loc [(6, vi (j + 1)), (5, vr 1 z5), (0, vr 0 0), (1, vi p), (2, vi i), (3, vr 1 ki), (4, vi so)] ⟨rfl, rfl, rfl, rfl, rfl, rfl, rfl, trivial⟩ ?_
            exact ih9 A2 (j + 1) hT2 hE2 (hO2.le (by omega)) (by show 0 ≤ (j + 1) ∧ (j + 1) ≤ A 1 ki 2 ∧ A 1 ki 2 ≤ 301; omega) (by show A2 0 0 33 = u + 1; omega) (by show (400 - (j + 1)) < _; omega)
          · refine m_blk 54 [(6, vi j), (5, vr 1 z5), (0, vr 0 0), (1, vi p), (2, vi i), (3, vr 1 ki), (4, vi so)] [vr 1 ki, vr 1 z5] C f_q_split_51_2 rfl ?_
            refine m_getrN C e_q_split_54 fg_Mo_279 rfl (by omega) rfl ?_
            refine m_blk 59 [(6, vi j), (5, vr 1 z5), (0, vr 0 0), (1, vi p), (2, vi i), (3, vr 1 ki), (4, vi so)] [vi j, vr 3 ki, vr 1 z5] C f_q_split_57_1 rfl ?_
            refine m_iald C e_q_split_59 rfl (by omega) (by decide) (by omega) (by show j < ((301 : Nat) : Int); omega) x9 hx9 ?_
            refine m_blk 61 [(6, vi j), (5, vr 1 z5), (0, vr 0 0), (1, vi p), (2, vi i), (3, vr 1 ki), (4, vi so)] [vr 1 ki, vi x9, vr 1 z5] C f_q_split_60_1 rfl ?_
            refine m_getrN C e_q_split_61 fg_Mo_285 rfl (by omega) rfl ?_
            refine m_blk 66 [(6, vi j), (5, vr 1 z5), (0, vr 0 0), (1, vi p), (2, vi i), (3, vr 1 ki), (4, vi so)] [vi j, vr 4 ki, vi x9, vr 1 z5] C f_q_split_64_1 rfl ?_
            obtain ⟨x17, hx17⟩ : ∃ x, A2 4 ki j.toNat = x := ⟨_, rfl⟩
            have rx17 : (-9223372036854775808) ≤ x17 ∧ x17 ≤ 9223372036854775807 := mrg hT2 hx17 rfl
            have pw9 : 0 ≤ SJ j ∧ 1 ≤ A 4 ki (Int.toNat j) ∧ SJ j + A 4 ki (Int.toNat j) ≤ T ∧ SJ (j + 1) = SJ j + A 4 ki (Int.toNat j) := by rw [hSJ, hSJ]; exact hO.part (j := j) (by omega) (by omega)
            have ew9 : A 4 ki (Int.toNat j) = x17 := (rmT 4 (Int.toNat j) (by decide)).symm.trans hx17
            rw [ew9] at pw9
            refine m_lald C e_q_split_66 rfl (by omega) (by decide) (by omega) (by show j < ((301 : Nat) : Int); omega) x17 hx17 ?_
            refine m_callV C Rm Y [vi x9, vl x17] [] (q_come l D B H0 ad _ hT2 z5 (SJ j) x9 x17 (by show z5 < 200; omega) hO2 (by show 0 ≤ x9 ∧ x9 ≤ 9999999; omega) (by show 0 ≤ x17 ∧ 0 ≤ (SJ j) ∧ (SJ j) + x17 ≤ 1125899906842624; omega)) cl_Mo_289 rfl (by omega) rfl rfl e_q_split_67 rfl rfl rfl ⟨by decide, by decide⟩ ?_
            rintro v18 A19 ⟨rfl, hT_n21, hE_n21, raw_hO_n21⟩
            have hF_n21 := hE2.trans (hE_n21.sub (cm_dm (by omega)))
            have hO_n21 : oG A19 z5 ((SJ j) + x17) := raw_hO_n21
            clear raw_hO_n21
            show JM g D ad w0 A19 70 [(6, vi j), (5, vr 1 z5), (0, vr 0 0), (1, vi p), (2, vi i), (3, vr 1 ki), (4, vi so)] []
            have ku_n21 : A19 0 0 33 = u + 1 := (hE_n21 0 0 33 rfl).trans hu2
            refine m_blk 9 [(6, vi (j + 1)), (5, vr 1 z5), (0, vr 0 0), (1, vi p), (2, vi i), (3, vr 1 ki), (4, vi so)] [] C f_q_split_70_2 rfl ?_
            refine m_loc [(6, vi (j + 1)), (5, vr 1 z5), (0, vr 0 0), (1, vi p), (2, vi i), (3, vr 1 ki), (4, vi so)] ⟨rfl, rfl, rfl, rfl, rfl, rfl, rfl, trivial⟩ ?_
            exact ih9 A19 (j + 1) hT_n21 hF_n21 (by rw [pw9.2.2.2]; exact hO_n21) (by show 0 ≤ (j + 1) ∧ (j + 1) ≤ A 1 ki 2 ∧ A 1 ki 2 ≤ 301; omega) (by show A19 0 0 33 = u + 1; omega) (by show (400 - (j + 1)) < _; omega)
        · refine m_blk 46 [(6, vi j), (5, vr 1 z5), (0, vr 0 0), (1, vi p), (2, vi i), (3, vr 1 ki), (4, vi so)] [vi 1] C f_q_split_41_2 rfl ?_
          refine m_blk 48 [(6, vi j), (5, vr 1 z5), (0, vr 0 0), (1, vi p), (2, vi i), (3, vr 1 ki), (4, vi so)] [vi so, vi 1] C f_q_split_46_1 rfl ?_
          refine m_icmp_ne (tgt := 70) C e_q_split_48 (by decide) (by decide) (by omega) (fun c22 => ?_) (fun c22 => ?_)
          · refine m_blk 9 [(6, vi (j + 1)), (5, vr 1 z5), (0, vr 0 0), (1, vi p), (2, vi i), (3, vr 1 ki), (4, vi so)] [] C f_q_split_70_2 rfl ?_
            refine m_loc [(6, vi (j + 1)), (5, vr 1 z5), (0, vr 0 0), (1, vi p), (2, vi i), (3, vr 1 ki), (4, vi so)] ⟨rfl, rfl, rfl, rfl, rfl, rfl, rfl, trivial⟩ ?_
            exact ih9 A2 (j + 1) hT2 hE2 (hO2.le (by omega)) (by show 0 ≤ (j + 1) ∧ (j + 1) ≤ A 1 ki 2 ∧ A 1 ki 2 ≤ 301; omega) (by show A2 0 0 33 = u + 1; omega) (by show (400 - (j + 1)) < _; omega)
          · refine m_blk 54 [(6, vi j), (5, vr 1 z5), (0, vr 0 0), (1, vi p), (2, vi i), (3, vr 1 ki), (4, vi so)] [vr 1 ki, vr 1 z5] C f_q_split_51_2 rfl ?_
            refine m_getrN C e_q_split_54 fg_Mo_279 rfl (by omega) rfl ?_
            refine m_blk 59 [(6, vi j), (5, vr 1 z5), (0, vr 0 0), (1, vi p), (2, vi i), (3, vr 1 ki), (4, vi so)] [vi j, vr 3 ki, vr 1 z5] C f_q_split_57_1 rfl ?_
            refine m_iald C e_q_split_59 rfl (by omega) (by decide) (by omega) (by show j < ((301 : Nat) : Int); omega) x9 hx9 ?_
            refine m_blk 61 [(6, vi j), (5, vr 1 z5), (0, vr 0 0), (1, vi p), (2, vi i), (3, vr 1 ki), (4, vi so)] [vr 1 ki, vi x9, vr 1 z5] C f_q_split_60_1 rfl ?_
            refine m_getrN C e_q_split_61 fg_Mo_285 rfl (by omega) rfl ?_
            refine m_blk 66 [(6, vi j), (5, vr 1 z5), (0, vr 0 0), (1, vi p), (2, vi i), (3, vr 1 ki), (4, vi so)] [vi j, vr 4 ki, vi x9, vr 1 z5] C f_q_split_64_1 rfl ?_
            obtain ⟨x23, hx23⟩ : ∃ x, A2 4 ki j.toNat = x := ⟨_, rfl⟩
            have rx23 : (-9223372036854775808) ≤ x23 ∧ x23 ≤ 9223372036854775807 := mrg hT2 hx23 rfl
            have pw9 : 0 ≤ SJ j ∧ 1 ≤ A 4 ki (Int.toNat j) ∧ SJ j + A 4 ki (Int.toNat j) ≤ T ∧ SJ (j + 1) = SJ j + A 4 ki (Int.toNat j) := by rw [hSJ, hSJ]; exact hO.part (j := j) (by omega) (by omega)
            have ew9 : A 4 ki (Int.toNat j) = x23 := (rmT 4 (Int.toNat j) (by decide)).symm.trans hx23
            rw [ew9] at pw9
            refine m_lald C e_q_split_66 rfl (by omega) (by decide) (by omega) (by show j < ((301 : Nat) : Int); omega) x23 hx23 ?_
            refine m_callV C Rm Y [vi x9, vl x23] [] (q_come l D B H0 ad _ hT2 z5 (SJ j) x9 x23 (by show z5 < 200; omega) hO2 (by show 0 ≤ x9 ∧ x9 ≤ 9999999; omega) (by show 0 ≤ x23 ∧ 0 ≤ (SJ j) ∧ (SJ j) + x23 ≤ 1125899906842624; omega)) cl_Mo_289 rfl (by omega) rfl rfl e_q_split_67 rfl rfl rfl ⟨by decide, by decide⟩ ?_
            rintro v24 A25 ⟨rfl, hT_n27, hE_n27, raw_hO_n27⟩
            have hF_n27 := hE2.trans (hE_n27.sub (cm_dm (by omega)))
            have hO_n27 : oG A25 z5 ((SJ j) + x23) := raw_hO_n27
            clear raw_hO_n27
            show JM g D ad w0 A25 70 [(6, vi j), (5, vr 1 z5), (0, vr 0 0), (1, vi p), (2, vi i), (3, vr 1 ki), (4, vi so)] []
            have ku_n27 : A25 0 0 33 = u + 1 := (hE_n27 0 0 33 rfl).trans hu2
            refine m_blk 9 [(6, vi (j + 1)), (5, vr 1 z5), (0, vr 0 0), (1, vi p), (2, vi i), (3, vr 1 ki), (4, vi so)] [] C f_q_split_70_2 rfl ?_
            refine m_loc [(6, vi (j + 1)), (5, vr 1 z5), (0, vr 0 0), (1, vi p), (2, vi i), (3, vr 1 ki), (4, vi so)] ⟨rfl, rfl, rfl, rfl, rfl, rfl, rfl, trivial⟩ ?_
            exact ih9 A25 (j + 1) hT_n27 hF_n27 (by rw [pw9.2.2.2]; exact hO_n27) (by show 0 ≤ (j + 1) ∧ (j + 1) ≤ A 1 ki 2 ∧ A 1 ki 2 ≤ 301; omega) (by show A25 0 0 33 = u + 1; omega) (by show (400 - (j + 1)) < _; omega)
  refine m_loc [(6, vi 0), (5, vr 1 z5), (0, vr 0 0), (1, vi p), (2, vi i), (3, vr 1 ki), (4, vi so)] ⟨rfl, rfl, rfl, rfl, rfl, rfl, rfl, trivial⟩ ?_
  exact hd_9 (Int.toNat ((400 - 0)) + 1) A2 0 hT_n4 hF_n4 (by rw [hSJ]; exact oG.nil hm_n4) (by show 0 ≤ 0 ∧ 0 ≤ A 1 ki 2 ∧ A 1 ki 2 ≤ 301; omega) (by show A2 0 0 33 = u + 1; omega) (by show (400 - 0) < _; omega)

theorem f_q_forget_0_1 : mblkB b_Mo_forget [(0, .aload_n 0, vi 0)] = true := by decide +kernel
theorem e_q_forget_1 : decode b_Mo_forget 1 = .ok (.invokevirtual 275, 3) := by decide +kernel
theorem f_q_forget_4_3 : mblkB b_Mo_forget [(4, .astore_n 3, vi 0), (5, .iconst 0, vi 0), (6, .istore 4, vi 0)] = true := by decide +kernel
theorem f_q_forget_8_2 : mblkB b_Mo_forget [(8, .iload 4, vi 0), (10, .aload_n 1, vi 0)] = true := by decide +kernel
theorem e_q_forget_11 : decode b_Mo_forget 11 = .ok (.getfield 272, 3) := by decide +kernel
theorem e_q_forget_14 : decode b_Mo_forget 14 = .ok (.if_icmp .ge 66, 3) := by decide +kernel
theorem f_q_forget_80_1 : mblkB b_Mo_forget [(80, .aload_n 3, vi 0)] = true := by decide +kernel
theorem e_q_forget_81 : decode b_Mo_forget 81 = .ok (.areturn, 1) := by decide +kernel
theorem f_q_forget_17_1 : mblkB b_Mo_forget [(17, .aload_n 1, vi 0)] = true := by decide +kernel
theorem e_q_forget_18 : decode b_Mo_forget 18 = .ok (.getfield 279, 3) := by decide +kernel
theorem f_q_forget_21_1 : mblkB b_Mo_forget [(21, .iload 4, vi 0)] = true := by decide +kernel
theorem e_q_forget_23 : decode b_Mo_forget 23 = .ok (.iaload, 1) := by decide +kernel
theorem f_q_forget_24_3 : mblkB b_Mo_forget [(24, .istore 5, vi 0), (26, .iconst 0, vi 0), (27, .istore 6, vi 0)] = true := by decide +kernel
theorem f_q_forget_29_2 : mblkB b_Mo_forget [(29, .iload 6, vi 0), (31, .bipush 6, vi 6)] = true := by decide +kernel
theorem e_q_forget_33 : decode b_Mo_forget 33 = .ok (.if_icmp .ge 28, 3) := by decide +kernel
theorem f_q_forget_61_3 : mblkB b_Mo_forget [(61, .aload_n 3, vi 0), (62, .iload 5, vi 0), (64, .aload_n 1, vi 0)] = true := by decide +kernel
theorem e_q_forget_65 : decode b_Mo_forget 65 = .ok (.getfield 285, 3) := by decide +kernel
theorem f_q_forget_68_1 : mblkB b_Mo_forget [(68, .iload 4, vi 0)] = true := by decide +kernel
theorem e_q_forget_70 : decode b_Mo_forget 70 = .ok (.laload, 1) := by decide +kernel
theorem e_q_forget_71 : decode b_Mo_forget 71 = .ok (.invokevirtual 289, 3) := by decide +kernel
theorem f_q_forget_74_2 : mblkB b_Mo_forget [(74, .iinc 4 1, vi 1), (77, .goto (-69), vi 8)] = true := by decide +kernel
theorem f_q_forget_36_5 : mblkB b_Mo_forget [(36, .iload_n 2, vi 0), (37, .iload 6, vi 0), (39, .ishr, vi 0), (40, .iconst 1, vi 1), (41, .iand, vi 0)] = true := by decide +kernel
theorem e_q_forget_42 : decode b_Mo_forget 42 = .ok (.ifCond .ne 13, 3) := by decide +kernel
theorem f_q_forget_55_2 : mblkB b_Mo_forget [(55, .iinc 6 1, vi 1), (58, .goto (-29), vi 29)] = true := by decide +kernel
theorem f_q_forget_45_3 : mblkB b_Mo_forget [(45, .iload 5, vi 0), (47, .iload 6, vi 0), (49, .iconst 0, vi 0)] = true := by decide +kernel
theorem e_q_forget_50 : decode b_Mo_forget 50 = .ok (.invokestatic 282, 3) := by decide +kernel
theorem f_q_forget_53_3 : mblkB b_Mo_forget [(53, .istore 5, vi 0), (55, .iinc 6 1, vi 1), (58, .goto (-29), vi 29)] = true := by decide +kernel
set_option maxHeartbeats 40000000 in
set_option maxRecDepth 100000 in
theorem q_forget (l : Launch) (D : va_G) (B : Nat) (H0 : Heap) (ad : mAd) (A : mA) (hT : mTy A) (u : Int) (T : Int) (ki : Nat) (w : Int) (hu : A 0 0 33 = u ∧ 0 ≤ u ∧ u ≤ 199) (hk : (ki : Int) < u) (hO : oG A ki T) (hT9 : 0 ≤ T ∧ T ≤ 1125899906842624) (hw : -2147483648 ≤ w ∧ w ≤ 2147483647)  : mMet l D B H0 ad y_Mo_forget b_Mo_forget 7 (some (.object "ChanceStepsModel$Odds")) 4 200 [vr 0 0, vr 1 ki, vi w] A (fun v9 A9 => ∃ z : Nat, v9 = some (vr 1 z) ∧ mTy A9 ∧ mEq (dm u.toNat) A A9 ∧ ((z : Int) = u) ∧ (A9 0 0 33 = u + 1) ∧ (oG A9 z T)) := by
  refine m_met (by decide) rfl (fun g w0 C Rm Y E => ?_)
  have hE0 : mEq (dm u.toNat) A A := mEq.rfl'
  show JM g D ad w0 A 0 [(0, vr 0 0), (1, vr 1 ki), (2, vi w)] []
  have rk9 : 0 ≤ A 1 ki 2 ∧ A 1 ki 2 ≤ 301 := hT 1 ki 2
  obtain ⟨SJ, hSJ⟩ : ∃ f : Int → Int, ∀ j, f j = ws (A 4 ki) 0 (Int.toNat j) := ⟨_, fun _ => rfl⟩
  refine m_blk 1 [(0, vr 0 0), (1, vr 1 ki), (2, vi w)] [vr 0 0] C f_q_forget_0_1 rfl ?_
  refine m_callV C Rm Y [] [] (q_taken l D B H0 ad _ hT u (by show A 0 0 33 = u ∧ 0 ≤ u ∧ u ≤ 199; omega)) cl_Mo_275 rfl (by decide) rfl rfl e_q_forget_1 rfl rfl rfl ⟨by decide, by decide⟩ ?_
  rintro v1 A2 ⟨z5, rfl, hT_n4, hE_n4, raw_hz_n4, raw_hu_n4, raw_hm_n4⟩
  have hF_n4 := hE0.trans (hE_n4.sub (tk_dm (by omega)))
  have hz_n4 : (z5 : Int) = u := raw_hz_n4
  clear raw_hz_n4
  have hu_n4 : A2 0 0 33 = u + 1 := raw_hu_n4
  clear raw_hu_n4
  have hm_n4 : A2 1 z5 2 = 0 := raw_hm_n4
  clear raw_hm_n4
  show JM g D ad w0 A2 4 [(0, vr 0 0), (1, vr 1 ki), (2, vi w)] [vr 1 z5]
  refine m_blk 8 [(4, vi 0), (3, vr 1 z5), (0, vr 0 0), (1, vr 1 ki), (2, vi w)] [] C f_q_forget_4_3 rfl ?_
  have hd_8 : ∀ (NZ : Nat) (A2 : mA) (j : Int), mTy A2 → mEq (dm u.toNat) A A2 → oG A2 z5 (SJ j) → 0 ≤ j ∧ j ≤ A 1 ki 2 ∧ A 1 ki 2 ≤ 301 → A2 0 0 33 = u + 1 → (400 - j) < (NZ : Int) → JM g D ad w0 A2 8 [(4, vi j), (3, vr 1 z5), (0, vr 0 0), (1, vr 1 ki), (2, vi w)] [] := by
    intro NZ
    induction NZ with
    | zero => intro A2 j hT2 hE2 hO2 hj hu2 hm8; exact absurd hm8 (by omega)
    | succ NZ ih8 =>
      intro A2 j hT2 hE2 hO2 hj hu2 hm8
      have w9 : A2 1 ki 2 = A 1 ki 2 := hE2 1 ki 2 (dm_lo (by omega) (by decide) 2)
      have rmT : ∀ f9 j9, f9 ≠ 0 → A2 f9 ki j9 = A f9 ki j9 := fun f9 j9 h9 => hE2 f9 ki j9 (dm_lo (by omega) h9 j9)
      have far : ∀ f9 k9 j9, 5 ≤ f9 → A2 f9 k9 j9 = A f9 k9 j9 := fun f9 k9 j9 h9 => hE2 f9 k9 j9 (dm_far h9 j9)
      refine m_blk 11 [(4, vi j), (3, vr 1 z5), (0, vr 0 0), (1, vr 1 ki), (2, vi w)] [vr 1 ki, vi j] C f_q_forget_8_2 rfl ?_
      obtain ⟨x6, hx6⟩ : ∃ x, A2 1 ki 2 = x := ⟨_, rfl⟩
      have rx6 : 0 ≤ x6 ∧ x6 ≤ 301 := mrg hT2 hx6 rfl
      refine m_getiN C e_q_forget_11 fg_Mo_272 rfl (by omega) rfl x6 hx6 ?_
      refine m_icmp_ge (tgt := 80) C e_q_forget_14 (by decide) (by omega) (by omega) (fun c7 => ?_) (fun c7 => ?_)
      · refine m_blk 81 [(4, vi j), (3, vr 1 z5), (0, vr 0 0), (1, vr 1 ki), (2, vi w)] [vr 1 z5] C f_q_forget_80_1 rfl ?_
        exact m_aret C Rm E e_q_forget_81 ⟨z5, rfl, hT2, hE2, (by show (z5 : Int) = u; omega), (by show A2 0 0 33 = u + 1; omega), (hO2.le (by have e9 : j = A 1 ki 2 := (by omega); rw [hSJ, e9]; exact (hO.tot (by omega)).2))⟩
      · refine m_blk 18 [(4, vi j), (3, vr 1 z5), (0, vr 0 0), (1, vr 1 ki), (2, vi w)] [vr 1 ki] C f_q_forget_17_1 rfl ?_
        refine m_getrN C e_q_forget_18 fg_Mo_279 rfl (by omega) rfl ?_
        refine m_blk 23 [(4, vi j), (3, vr 1 z5), (0, vr 0 0), (1, vr 1 ki), (2, vi w)] [vi j, vr 3 ki] C f_q_forget_21_1 rfl ?_
        obtain ⟨x8, hx8⟩ : ∃ x, A2 3 ki j.toNat = x := ⟨_, rfl⟩
        have rx8 : 0 ≤ x8 ∧ x8 ≤ 9999999 := mrg hT2 hx8 rfl
        refine m_iald C e_q_forget_23 rfl (by omega) (by decide) (by omega) (by show j < ((301 : Nat) : Int); omega) x8 hx8 ?_
        refine m_blk 29 [(6, vi 0), (5, vi x8), (4, vi j), (3, vr 1 z5), (0, vr 0 0), (1, vr 1 ki), (2, vi w)] [] C f_q_forget_24_3 rfl ?_
        have hd_29 : ∀ (NZ : Nat) (s : Int) (q : Int), 0 ≤ s ∧ s ≤ 9999999 → 0 ≤ q ∧ q ≤ 6 → (40 - q) < (NZ : Int) → JM g D ad w0 A2 29 [(6, vi q), (5, vi s), (4, vi j), (3, vr 1 z5), (0, vr 0 0), (1, vr 1 ki), (2, vi w)] [] := by
          intro NZ
          induction NZ with
          | zero => intro s q hs hq hm29; exact absurd hm29 (by omega)
          | succ NZ ih29 =>
            intro s q hs hq hm29
            refine m_blk 33 [(6, vi q), (5, vi s), (4, vi j), (3, vr 1 z5), (0, vr 0 0), (1, vr 1 ki), (2, vi w)] [vi 6, vi q] C f_q_forget_29_2 rfl ?_
            refine m_icmp_ge (tgt := 61) C e_q_forget_33 (by decide) (by omega) (by decide) (fun c9 => ?_) (fun c9 => ?_)
            · refine m_blk 65 [(6, vi q), (5, vi s), (4, vi j), (3, vr 1 z5), (0, vr 0 0), (1, vr 1 ki), (2, vi w)] [vr 1 ki, vi s, vr 1 z5] C f_q_forget_61_3 rfl ?_
              refine m_getrN C e_q_forget_65 fg_Mo_285 rfl (by omega) rfl ?_
              refine m_blk 70 [(6, vi q), (5, vi s), (4, vi j), (3, vr 1 z5), (0, vr 0 0), (1, vr 1 ki), (2, vi w)] [vi j, vr 4 ki, vi s, vr 1 z5] C f_q_forget_68_1 rfl ?_
              obtain ⟨x10, hx10⟩ : ∃ x, A2 4 ki j.toNat = x := ⟨_, rfl⟩
              have rx10 : (-9223372036854775808) ≤ x10 ∧ x10 ≤ 9223372036854775807 := mrg hT2 hx10 rfl
              have pw9 : 0 ≤ SJ j ∧ 1 ≤ A 4 ki (Int.toNat j) ∧ SJ j + A 4 ki (Int.toNat j) ≤ T ∧ SJ (j + 1) = SJ j + A 4 ki (Int.toNat j) := by rw [hSJ, hSJ]; exact hO.part (j := j) (by omega) (by omega)
              have ew9 : A 4 ki (Int.toNat j) = x10 := (rmT 4 (Int.toNat j) (by decide)).symm.trans hx10
              rw [ew9] at pw9
              refine m_lald C e_q_forget_70 rfl (by omega) (by decide) (by omega) (by show j < ((301 : Nat) : Int); omega) x10 hx10 ?_
              refine m_callV C Rm Y [vi s, vl x10] [] (q_come l D B H0 ad _ hT2 z5 (SJ j) s x10 (by show z5 < 200; omega) hO2 (by show 0 ≤ s ∧ s ≤ 9999999; omega) (by show 0 ≤ x10 ∧ 0 ≤ (SJ j) ∧ (SJ j) + x10 ≤ 1125899906842624; omega)) cl_Mo_289 rfl (by omega) rfl rfl e_q_forget_71 rfl rfl rfl ⟨by decide, by decide⟩ ?_
              rintro v11 A12 ⟨rfl, hT_n14, hE_n14, raw_hO_n14⟩
              have hF_n14 := hE2.trans (hE_n14.sub (cm_dm (by omega)))
              have hO_n14 : oG A12 z5 ((SJ j) + x10) := raw_hO_n14
              clear raw_hO_n14
              show JM g D ad w0 A12 74 [(6, vi q), (5, vi s), (4, vi j), (3, vr 1 z5), (0, vr 0 0), (1, vr 1 ki), (2, vi w)] []
              have ku_n14 : A12 0 0 33 = u + 1 := (hE_n14 0 0 33 rfl).trans hu2
              refine m_blk 8 [(4, vi (j + 1)), (6, vi q), (5, vi s), (3, vr 1 z5), (0, vr 0 0), (1, vr 1 ki), (2, vi w)] [] C f_q_forget_74_2 rfl ?_
              refine m_loc [(4, vi (j + 1)), (3, vr 1 z5), (0, vr 0 0), (1, vr 1 ki), (2, vi w)] ⟨rfl, rfl, rfl, rfl, rfl, trivial⟩ ?_
              exact ih8 A12 (j + 1) hT_n14 hF_n14 (by rw [pw9.2.2.2]; exact hO_n14) (by show 0 ≤ (j + 1) ∧ (j + 1) ≤ A 1 ki 2 ∧ A 1 ki 2 ≤ 301; omega) (by show A12 0 0 33 = u + 1; omega) (by show (400 - (j + 1)) < _; omega)
            · refine m_blk 42 [(6, vi q), (5, vi s), (4, vi j), (3, vr 1 z5), (0, vr 0 0), (1, vr 1 ki), (2, vi w)] [vi (iAnd (iShr w q) 1)] C f_q_forget_36_5 rfl ?_
              refine m_if_ne (tgt := 55) C e_q_forget_42 (by decide) (iAnd_r _ _) (fun c15 => ?_) (fun c15 => ?_)
              · refine m_blk 29 [(6, vi (q + 1)), (5, vi s), (4, vi j), (3, vr 1 z5), (0, vr 0 0), (1, vr 1 ki), (2, vi w)] [] C f_q_forget_55_2 rfl ?_
                refine m_loc [(6, vi (q + 1)), (5, vi s), (4, vi j), (3, vr 1 z5), (0, vr 0 0), (1, vr 1 ki), (2, vi w)] ⟨rfl, rfl, rfl, rfl, rfl, rfl, rfl, trivial⟩ ?_
                exact ih29 s (q + 1) (by show 0 ≤ s ∧ s ≤ 9999999; omega) (by show 0 ≤ (q + 1) ∧ (q + 1) ≤ 6; omega) (by show (40 - (q + 1)) < _; omega)
              · refine m_blk 50 [(6, vi q), (5, vi s), (4, vi j), (3, vr 1 z5), (0, vr 0 0), (1, vr 1 ki), (2, vi w)] [vi 0, vi q, vi s] C f_q_forget_45_3 rfl ?_
                refine m_callS C Rm Y [vi s, vi q, vi 0] [] (q_with l D B H0 ad _ s q 0 (by show 0 ≤ s ∧ s ≤ 9999999; omega) (by show -1 ≤ q ∧ q ≤ 5; omega) (by show 0 ≤ 0 ∧ 0 ≤ 9; omega)) cl_Mo_282 e_q_forget_50 rfl rfl rfl ⟨by decide, by decide⟩ ?_
                rintro v16 A17 ⟨z20, rfl, rfl, raw_hz_n19⟩
                have hz_n19 : z20 = s + (0 - dg s q) * tnF q ∧ 0 ≤ z20 ∧ z20 ≤ 9999999 := raw_hz_n19
                clear raw_hz_n19
                show JM g D ad w0 A2 53 [(6, vi q), (5, vi s), (4, vi j), (3, vr 1 z5), (0, vr 0 0), (1, vr 1 ki), (2, vi w)] [vi z20]
                refine m_blk 29 [(6, vi (q + 1)), (5, vi z20), (4, vi j), (3, vr 1 z5), (0, vr 0 0), (1, vr 1 ki), (2, vi w)] [] C f_q_forget_53_3 rfl ?_
                refine m_loc [(6, vi (q + 1)), (5, vi z20), (4, vi j), (3, vr 1 z5), (0, vr 0 0), (1, vr 1 ki), (2, vi w)] ⟨rfl, rfl, rfl, rfl, rfl, rfl, rfl, trivial⟩ ?_
                exact ih29 z20 (q + 1) (by show 0 ≤ z20 ∧ z20 ≤ 9999999; omega) (by show 0 ≤ (q + 1) ∧ (q + 1) ≤ 6; omega) (by show (40 - (q + 1)) < _; omega)
        refine m_loc [(6, vi 0), (5, vi x8), (4, vi j), (3, vr 1 z5), (0, vr 0 0), (1, vr 1 ki), (2, vi w)] ⟨rfl, rfl, rfl, rfl, rfl, rfl, rfl, trivial⟩ ?_
        exact hd_29 (Int.toNat ((40 - 0)) + 1) x8 0 (by show 0 ≤ x8 ∧ x8 ≤ 9999999; omega) (by show 0 ≤ 0 ∧ 0 ≤ 6; omega) (by show (40 - 0) < _; omega)
  refine m_loc [(4, vi 0), (3, vr 1 z5), (0, vr 0 0), (1, vr 1 ki), (2, vi w)] ⟨rfl, rfl, rfl, rfl, rfl, trivial⟩ ?_
  exact hd_8 (Int.toNat ((400 - 0)) + 1) A2 0 hT_n4 hF_n4 (by rw [hSJ]; exact oG.nil hm_n4) (by show 0 ≤ 0 ∧ 0 ≤ A 1 ki 2 ∧ A 1 ki 2 ≤ 301; omega) (by show A2 0 0 33 = u + 1; omega) (by show (400 - 0) < _; omega)
