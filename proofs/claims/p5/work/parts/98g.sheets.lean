/-! the reference: sheets, start, tape, image (own work, by program) -/
def sm (f _k _j : Nat) : Bool := f == 11 || (f == 12 || (f == 13 || f == 49))
def stm (f k _j : Nat) : Bool := f == 8 && k == 0
def im (f _k j : Nat) : Bool := (f == 0 && j == 37) || f == 10
def bm (f _k j : Nat) : Bool := (f == 0 && j == 0) || f == 8
def fm (f _k j : Nat) : Bool := (f == 0 && j == 22) || f == 9
def flm (f k j : Nat) : Bool := rm 0 f k j || (f == 11 || (f == 12 || f == 49))
def tm (f k j : Nat) : Bool := rm 0 f k j || (f == 8 && (k == 0 && j == 0))
def nm0 (_f _k _j : Nat) : Bool := false
theorem mI.mk0 {S : Nat → Nat → Nat → Bool} {A A9 : mA} (h : mI A) (q : mEq S A A9) (hS : ∀ f k j, 34 ≤ f ∧ f ≤ 46 ∨ f = 5 ∨ f = 51 ∨ f = 0 ∧ (j = 0 ∨ j = 37) → S f k j = false) : mI A9 := by
  have e0 : A9 0 0 0 = A 0 0 0 := q 0 0 0 (hS _ _ _ (by omega))
  have e37 : A9 0 0 37 = A 0 0 37 := q 0 0 37 (hS _ _ _ (by omega))
  refine h.keep (fun f P h1 h2 => funext fun j => q f P j (hS _ _ _ (by omega))) (funext fun j => q 5 0 j (hS _ _ _ (by omega))) (funext fun k => funext fun j => q 51 k j (hS _ _ _ (by omega))) (by omega) ?_
  rw [e37, e0]
  exact h.2.1
theorem bq {a b : Nat} (h : a ≠ b) : (a == b) = false := by simpa using h
theorem sm_k : ∀ f k j, 34 ≤ f ∧ f ≤ 46 ∨ f = 5 ∨ f = 51 ∨ f = 0 ∧ (j = 0 ∨ j = 37) → sm f k j = false := fun f k j h => by
  unfold sm
  rw [bq (by omega), bq (by omega), bq (by omega), bq (by omega)]
  rfl
theorem stm_k : ∀ f k j, 34 ≤ f ∧ f ≤ 46 ∨ f = 5 ∨ f = 51 ∨ f = 0 ∧ (j = 0 ∨ j = 37) → stm f k j = false := fun f k j h => by
  unfold stm
  rw [bq (show f ≠ 8 by omega)]
  rfl
theorem fm_k : ∀ f k j, 34 ≤ f ∧ f ≤ 46 ∨ f = 5 ∨ f = 51 ∨ f = 0 ∧ (j = 0 ∨ j = 37) → fm f k j = false := fun f k j h => by
  unfold fm
  rw [bq (show f ≠ 9 by omega)]
  by_cases h1 : f = 0
  · rw [bq (show j ≠ 22 by omega), Bool.and_false]
    rfl
  · rw [bq h1]
    rfl
theorem mI.smk {A A9 : mA} (h : mI A) (q : mEq sm A A9) : mI A9 := h.mk0 q sm_k
theorem mI.stk {A A9 : mA} (h : mI A) (q : mEq stm A A9) : mI A9 := h.mk0 q stm_k
theorem mI.fmk {A A9 : mA} (h : mI A) (q : mEq fm A A9) : mI A9 := h.mk0 q fm_k
theorem mI.nmk {A A9 : mA} (h : mI A) (q : mEq nm0 A A9) : mI A9 := h.mk0 q (fun _ _ _ _ => rfl)
theorem mI.imk {A A9 : mA} (h : mI A) (q : mEq im A A9) (e : A9 0 0 37 ≤ A 0 0 0) : mI A9 := by
  have e0 : A9 0 0 0 = A 0 0 0 := q 0 0 0 rfl
  refine h.keep (fun f P h1 h2 => funext fun j => q f P j ?_) (funext fun j => q 5 0 j rfl) (funext fun k => funext fun j => q 51 k j rfl) (by omega) (by omega)
  unfold im
  rw [bq (show f ≠ 0 by omega), bq (show f ≠ 10 by omega)]
  rfl
theorem mI.bmk {A A9 : mA} (h : mI A) (q : mEq bm A A9) (e : A9 0 0 0 = A 0 0 37) : mI A9 := by
  have e37 : A9 0 0 37 = A 0 0 37 := q 0 0 37 rfl
  have h2 := h.2.1
  refine h.keep (fun f P h1 h2 => funext fun j => q f P j ?_) (funext fun j => q 5 0 j rfl) (funext fun k => funext fun j => q 51 k j rfl) (by omega) (by omega)
  unfold bm
  rw [bq (show f ≠ 0 by omega), bq (show f ≠ 8 by omega)]
  rfl
theorem mI.w49 {A : mA} (h : mI A) {f k j : Nat} {z : Int} (hf : f = 8 ∨ f = 11 ∨ f = 12 ∨ f = 49) : mI (mu A f k j z) := by
  refine h.keep (fun f2 P h1 h2 => ?_) ?_ ?_ ?_ ?_
  · exact mu_fk A j z (fun q => by omega)
  · exact mu_fk A j z (fun q => by omega)
  · funext k2
    exact mu_fk A j z (fun q => by omega)
  · rw [mu_ne A z (fun q => by omega)]
    omega
  · rw [mu_ne A z (fun q => by omega), mu_ne A z (fun q => by omega)]
    exact h.2.1
theorem rm_fl : ∀ f k j, flm f k j = false → rm 0 f k j = false := fun f k j h => by
  unfold flm at h
  rw [Bool.or_eq_false_iff] at h
  exact h.1
theorem rm_tm : ∀ f k j, tm f k j = false → rm 0 f k j = false := fun f k j h => by
  unfold tm at h
  rw [Bool.or_eq_false_iff] at h
  exact h.1
theorem tm_rm {A A9 : mA} (q : mEq tm A A9) (e : A9 8 0 0 = A 8 0 0) : mEq (rm 0) A A9 := fun f k j h => by
  by_cases h1 : f = 8 ∧ k = 0 ∧ j = 0
  · rw [h1.1, h1.2.1, h1.2.2]
    exact e
  · refine q f k j ?_
    unfold tm
    rw [h]
    by_cases h2 : f = 8
    · by_cases h3 : k = 0
      · rw [bq (show j ≠ 0 by omega), Bool.and_false, Bool.and_false]
        rfl
      · rw [bq h3, Bool.false_and, Bool.and_false]
        rfl
    · rw [bq h2]
      rfl
def ansheet (a b c : Int) : Int := if a < 0 ∨ 3 < a ∨ b < -1 ∨ 1 < b then -2 else if b < 0 then 1 else if 40 < c then -2 else if c < 0 then -14 else 1
theorem f_q_letF_0_1 : mblkB b_Mo_let_0 [(0, .iload_n 1, vi 0)] = true := by decide +kernel
theorem e_q_letF_1 : decode b_Mo_let_0 1 = .ok (.invokestatic 254, 3) := by decide +kernel
theorem e_q_letF_4 : decode b_Mo_let_0 4 = .ok (.ifCond .eq 13, 3) := by decide +kernel
theorem f_q_letF_7_3 : mblkB b_Mo_let_0 [(7, .iload_n 2, vi 0), (8, .iconst 0, vi 0), (9, .bipush 9, vi 9)] = true := by decide +kernel
theorem e_q_letF_11 : decode b_Mo_let_0 11 = .ok (.invokestatic 108, 3) := by decide +kernel
theorem e_q_letF_14 : decode b_Mo_let_0 14 = .ok (.ifCond .ne 6, 3) := by decide +kernel
theorem f_q_letF_20_1 : mblkB b_Mo_let_0 [(20, .aload_n 0, vi 0)] = true := by decide +kernel
theorem e_q_letF_21 : decode b_Mo_let_0 21 = .ok (.getfield 60, 3) := by decide +kernel
theorem f_q_letF_24_1 : mblkB b_Mo_let_0 [(24, .iload_n 1, vi 0)] = true := by decide +kernel
theorem e_q_letF_25 : decode b_Mo_let_0 25 = .ok (.iaload, 1) := by decide +kernel
theorem f_q_letF_26_2 : mblkB b_Mo_let_0 [(26, .istore_n 3, vi 0), (27, .aload_n 0, vi 0)] = true := by decide +kernel
theorem e_q_letF_28 : decode b_Mo_let_0 28 = .ok (.getfield 60, 3) := by decide +kernel
theorem f_q_letF_31_2 : mblkB b_Mo_let_0 [(31, .iload_n 1, vi 0), (32, .iload_n 2, vi 0)] = true := by decide +kernel
theorem e_q_letF_33 : decode b_Mo_let_0 33 = .ok (.iastore, 1) := by decide +kernel
theorem f_q_letF_34_1 : mblkB b_Mo_let_0 [(34, .iload_n 3, vi 0)] = true := by decide +kernel
theorem e_q_letF_35 : decode b_Mo_let_0 35 = .ok (.ireturn, 1) := by decide +kernel
theorem f_q_letF_17_1 : mblkB b_Mo_let_0 [(17, .bipush (-2), vi (-2))] = true := by decide +kernel
theorem e_q_letF_19 : decode b_Mo_let_0 19 = .ok (.ireturn, 1) := by decide +kernel
set_option maxHeartbeats 40000000 in
set_option maxRecDepth 100000 in
theorem q_letF (l : Launch) (D : va_G) (B : Nat) (H0 : Heap) (ad : mAd) (A : mA) (hT : mTy A)  (n : Int) (v : Int) (hnr : -2147483648 ≤ n ∧ n ≤ 2147483647) (hvr : -2147483648 ≤ v ∧ v ≤ 2147483647) (hI : mI A)  : mMet l D B H0 ad y_Mo_let_0 b_Mo_let_0 4 (some .int) 920 23600 [vr 0 0, vi n, vi v] A (fun v9 A9 => ∃ z : Int, v9 = some (vi z) ∧ mTy A9 ∧ mEq stm A A9 ∧ (z = if 0 ≤ n ∧ n ≤ 5 ∧ 0 ≤ v ∧ v ≤ 9 then A 8 0 (Int.toNat n) else -2) ∧ (∀ j : Nat, A9 8 0 j = if (0 ≤ n ∧ n ≤ 5 ∧ 0 ≤ v ∧ v ≤ 9) ∧ j = Int.toNat n then v else A 8 0 j) ∧ (mI A9)) := by
  refine m_met (by decide) rfl (fun g w0 C Rm Y E => ?_)
  have hE0 : mEq stm A A := mEq.rfl'
  show JM g D ad w0 A 0 [(0, vr 0 0), (1, vi n), (2, vi v)] []
  have r0 : 0 ≤ A 0 0 0 ∧ A 0 0 0 ≤ 6 := hT 0 0 0
  refine m_blk 1 [(0, vr 0 0), (1, vi n), (2, vi v)] [vi n] C f_q_letF_0_1 rfl ?_
  refine m_callS C Rm Y [vi n] [] (q_isName l D B H0 ad _ n (by show -2147483648 ≤ n ∧ n ≤ 2147483647; omega)) cl_Mo_254 e_q_letF_1 rfl rfl rfl ⟨by decide, by decide⟩ ?_
  rintro v1 A2 ⟨z5, rfl, rfl, raw_hz_n4⟩
  show JM g D ad w0 A 4 [(0, vr 0 0), (1, vi n), (2, vi v)] [vi z5]
  have hz_n4 : z5 = 1 ∧ 0 ≤ n ∧ n ≤ 5 ∨ z5 = 0 ∧ ¬ (0 ≤ n ∧ n ≤ 5) := raw_hz_n4
  clear raw_hz_n4
  rcases hz_n4 with ⟨e_n4, hz_n4⟩ | ⟨e_n4, hz_n4⟩
  · subst e_n4
    refine m_if_eq (tgt := 17) C e_q_letF_4 (by decide) (by decide) (fun c6 => (by omega : False).elim) (fun c6 => ?_)
    refine m_blk 11 [(0, vr 0 0), (1, vi n), (2, vi v)] [vi 9, vi 0, vi v] C f_q_letF_7_3 rfl ?_
    refine m_callS C Rm Y [vi v, vi 0, vi 9] [] (q_in l D B H0 ad _ v 0 9 (by show -2147483648 ≤ v ∧ v ≤ 2147483647; omega) (by show -2147483648 ≤ 0 ∧ 0 ≤ 2147483647; omega) (by show -2147483648 ≤ 9 ∧ 9 ≤ 2147483647; omega)) cl_Mo_108 e_q_letF_11 rfl rfl rfl ⟨by decide, by decide⟩ ?_
    rintro v7 A8 ⟨z11, rfl, rfl, raw_hz_n10⟩
    show JM g D ad w0 A 14 [(0, vr 0 0), (1, vi n), (2, vi v)] [vi z11]
    have hz_n10 : z11 = 1 ∧ 0 ≤ v ∧ v ≤ 9 ∨ z11 = 0 ∧ ¬ (0 ≤ v ∧ v ≤ 9) := raw_hz_n10
    clear raw_hz_n10
    rcases hz_n10 with ⟨e_n10, hz_n10⟩ | ⟨e_n10, hz_n10⟩
    · subst e_n10
      refine m_if_ne (tgt := 20) C e_q_letF_14 (by decide) (by decide) (fun c12 => ?_) (fun c12 => (by omega : False).elim)
      refine m_blk 21 [(0, vr 0 0), (1, vi n), (2, vi v)] [vr 0 0] C f_q_letF_20_1 rfl ?_
      refine m_getr C e_q_letF_21 fg_Mo_60 rfl (by decide) rfl ?_
      refine m_blk 25 [(0, vr 0 0), (1, vi n), (2, vi v)] [vi n, vr 8 0] C f_q_letF_24_1 rfl ?_
      obtain ⟨x13, hx13⟩ : ∃ x, A 8 0 n.toNat = x := ⟨_, rfl⟩
      have rx13 : 0 ≤ x13 ∧ x13 ≤ 9 := mrg hT hx13 rfl
      refine m_iald C e_q_letF_25 rfl (by decide) (by decide) (by omega) (by show n < ((6 : Nat) : Int); omega) x13 hx13 ?_
      refine m_blk 28 [(3, vi x13), (0, vr 0 0), (1, vi n), (2, vi v)] [vr 0 0] C f_q_letF_26_2 rfl ?_
      refine m_getr C e_q_letF_28 fg_Mo_60 rfl (by decide) rfl ?_
      refine m_blk 33 [(3, vi x13), (0, vr 0 0), (1, vi n), (2, vi v)] [vi v, vi n, vr 8 0] C f_q_letF_31_2 rfl ?_
      refine m_iast C e_q_letF_33 rfl (by decide) (by decide) (by omega) (by show n < ((6 : Nat) : Int); omega) ?_
      have t14 : mTy (mu A 8 0 n.toNat v) := hT.mu (by show 0 ≤ v ∧ v ≤ 9; omega)
      have q15 := hE0.mu (f := 8) (k := 0) (j := n.toNat) (z := v) (by simp [stm])
      refine m_blk 35 [(3, vi x13), (0, vr 0 0), (1, vi n), (2, vi v)] [vi x13] C f_q_letF_34_1 rfl ?_
      exact m_iret C Rm E e_q_letF_35 ⟨x13, rfl, t14, q15, (by rw [if_pos (by omega)]; exact (hx13).symm), (fun j => by
          by_cases h8 : j = Int.toNat n
          · rw [if_pos ⟨by omega, h8⟩, h8]; exact mu_at A 8 0 _ v
          · rw [if_neg (fun h7 => h8 h7.2)]; exact mu_ne A v (fun h7 => h8 h7.2.2)), (hI.stk q15)⟩
    · subst e_n10
      refine m_if_ne (tgt := 20) C e_q_letF_14 (by decide) (by decide) (fun c16 => (by omega : False).elim) (fun c16 => ?_)
      refine m_blk 19 [(0, vr 0 0), (1, vi n), (2, vi v)] [vi (-2)] C f_q_letF_17_1 rfl ?_
      exact m_iret C Rm E e_q_letF_19 ⟨(-2), rfl, hT, hE0, (by rw [if_neg (by omega)]), (fun j => by rw [if_neg (by omega)]), (hI.stk hE0)⟩
  · subst e_n4
    refine m_if_eq (tgt := 17) C e_q_letF_4 (by decide) (by decide) (fun c17 => ?_) (fun c17 => (by omega : False).elim)
    refine m_blk 19 [(0, vr 0 0), (1, vi n), (2, vi v)] [vi (-2)] C f_q_letF_17_1 rfl ?_
    exact m_iret C Rm E e_q_letF_19 ⟨(-2), rfl, hT, hE0, (by rw [if_neg (by omega)]), (fun j => by rw [if_neg (by omega)]), (hI.stk hE0)⟩

theorem f_q_image_0_2 : mblkB b_Mo_image [(0, .aload_n 0, vi 0), (1, .aload_n 0, vi 0)] = true := by decide +kernel
theorem e_q_image_2 : decode b_Mo_image 2 = .ok (.getfield 105, 3) := by decide +kernel
theorem e_q_image_5 : decode b_Mo_image 5 = .ok (.putfield 85, 3) := by decide +kernel
theorem f_q_image_8_1 : mblkB b_Mo_image [(8, .aload_n 0, vi 0)] = true := by decide +kernel
theorem e_q_image_9 : decode b_Mo_image 9 = .ok (.getfield 60, 3) := by decide +kernel
theorem f_q_image_12_2 : mblkB b_Mo_image [(12, .iconst 0, vi 0), (13, .aload_n 0, vi 0)] = true := by decide +kernel
theorem e_q_image_14 : decode b_Mo_image 14 = .ok (.getfield 89, 3) := by decide +kernel
theorem f_q_image_17_2 : mblkB b_Mo_image [(17, .iconst 0, vi 0), (18, .bipush 6, vi 6)] = true := by decide +kernel
theorem e_q_image_20 : decode b_Mo_image 20 = .ok (.invokestatic 428, 3) := by decide +kernel
theorem f_q_image_23_1 : mblkB b_Mo_image [(23, .aload_n 0, vi 0)] = true := by decide +kernel
theorem e_q_image_24 : decode b_Mo_image 24 = .ok (.getfield 105, 3) := by decide +kernel
theorem e_q_image_27 : decode b_Mo_image 27 = .ok (.ireturn, 1) := by decide +kernel
set_option maxHeartbeats 40000000 in
set_option maxRecDepth 100000 in
theorem q_image (l : Launch) (D : va_G) (B : Nat) (H0 : Heap) (ad : mAd) (A : mA) (hT : mTy A)  (hI : mI A)  : mMet l D B H0 ad y_Mo_image b_Mo_image 1 (some .int) 920 23600 [vr 0 0] A (fun v9 A9 => ∃ z : Int, v9 = some (vi z) ∧ mTy A9 ∧ mEq im A A9 ∧ (z = A 0 0 0) ∧ (∀ j : Nat, j < 6 → A9 10 0 j = A 8 0 j) ∧ (A9 0 0 37 = A 0 0 0) ∧ (mI A9)) := by
  refine m_met (by decide) rfl (fun g w0 C Rm Y E => ?_)
  have hE0 : mEq im A A := mEq.rfl'
  show JM g D ad w0 A 0 [(0, vr 0 0)] []
  have r0 : 0 ≤ A 0 0 0 ∧ A 0 0 0 ≤ 6 := hT 0 0 0
  refine m_blk 2 [(0, vr 0 0)] [vr 0 0, vr 0 0] C f_q_image_0_2 rfl ?_
  obtain ⟨x1, hx1⟩ : ∃ x, A 0 0 0 = x := ⟨_, rfl⟩
  have rx1 : 0 ≤ x1 ∧ x1 ≤ 6 := mrg hT hx1 rfl
  refine m_geti C e_q_image_2 fg_Mo_105 rfl (by decide) rfl x1 hx1 ?_
  refine m_puti C e_q_image_5 fp_Mo_85 rfl (by decide) rfl ?_
  have t2 : mTy (mu A 0 0 37 x1) := hT.mu (by show (-1) ≤ x1 ∧ x1 ≤ 6; omega)
  have q3 := hE0.mu (f := 0) (k := 0) (j := 37) (z := x1) (by simp [im])
  refine m_blk 9 [(0, vr 0 0)] [vr 0 0] C f_q_image_8_1 rfl ?_
  refine m_getr C e_q_image_9 fg_Mo_60 rfl (by decide) rfl ?_
  refine m_blk 14 [(0, vr 0 0)] [vr 0 0, vi 0, vr 8 0] C f_q_image_12_2 rfl ?_
  refine m_getr C e_q_image_14 fg_Mo_89 rfl (by decide) rfl ?_
  refine m_blk 20 [(0, vr 0 0)] [vi 6, vi 0, vr 10 0, vi 0, vr 8 0] C f_q_image_17_2 rfl ?_
  refine m_copyi C Rm cl_Mo_428 e_q_image_20 rfl (by decide) rfl (by decide) (by decide) (by decide) (by decide) (by decide) (by show _ ≤ ((6 : Nat) : Int); omega) (by show _ ≤ ((6 : Nat) : Int); omega) (by decide) (Nat.le_of_ble_eq_true rfl) ?_
  have t4 : mTy (mcp (mu A 0 0 37 x1) 8 0 0 10 0 0 6) := t2.cp (fun _ _ => rfl)
  have q5 : mEq im A (mcp (mu A 0 0 37 x1) 8 0 0 10 0 0 6) := q3.cp (by intro j; simp [im])
  refine m_blk 24 [(0, vr 0 0)] [vr 0 0] C f_q_image_23_1 rfl ?_
  refine m_geti C e_q_image_24 fg_Mo_105 rfl (by decide) rfl x1 hx1 ?_
  exact m_iret C Rm E e_q_image_27 ⟨x1, rfl, t4, q5, (by omega), (fun j hj => by show (if 10 = 10 ∧ 0 = 0 ∧ (Int.toNat 0) ≤ j ∧ j < (Int.toNat 0) + (Int.toNat 6) then _ else _) = _; rw [if_pos ⟨rfl, rfl, Nat.zero_le _, by show j < 0 + 6; omega⟩]; show A 8 0 (0 + (j - 0)) = _; rw [show 0 + (j - 0) = j by omega]), (by rw [mcp_fk _ (by decide)]; show x1 = A 0 0 0; omega), (hI.imk q5 (by rw [mcp_fk _ (by decide)]; show x1 ≤ A 0 0 0; omega))⟩

theorem f_q_back_0_1 : mblkB b_Mo_back [(0, .aload_n 0, vi 0)] = true := by decide +kernel
theorem e_q_back_1 : decode b_Mo_back 1 = .ok (.getfield 85, 3) := by decide +kernel
theorem f_q_back_4_1 : mblkB b_Mo_back [(4, .iconst (-1), vi (-1))] = true := by decide +kernel
theorem e_q_back_5 : decode b_Mo_back 5 = .ok (.if_icmp .ne 6, 3) := by decide +kernel
theorem f_q_back_11_2 : mblkB b_Mo_back [(11, .aload_n 0, vi 0), (12, .aload_n 0, vi 0)] = true := by decide +kernel
theorem e_q_back_13 : decode b_Mo_back 13 = .ok (.getfield 85, 3) := by decide +kernel
theorem e_q_back_16 : decode b_Mo_back 16 = .ok (.putfield 105, 3) := by decide +kernel
theorem f_q_back_19_1 : mblkB b_Mo_back [(19, .aload_n 0, vi 0)] = true := by decide +kernel
theorem e_q_back_20 : decode b_Mo_back 20 = .ok (.getfield 89, 3) := by decide +kernel
theorem f_q_back_23_2 : mblkB b_Mo_back [(23, .iconst 0, vi 0), (24, .aload_n 0, vi 0)] = true := by decide +kernel
theorem e_q_back_25 : decode b_Mo_back 25 = .ok (.getfield 60, 3) := by decide +kernel
theorem f_q_back_28_2 : mblkB b_Mo_back [(28, .iconst 0, vi 0), (29, .bipush 6, vi 6)] = true := by decide +kernel
theorem e_q_back_31 : decode b_Mo_back 31 = .ok (.invokestatic 428, 3) := by decide +kernel
theorem f_q_back_34_1 : mblkB b_Mo_back [(34, .aload_n 0, vi 0)] = true := by decide +kernel
theorem e_q_back_35 : decode b_Mo_back 35 = .ok (.getfield 105, 3) := by decide +kernel
theorem e_q_back_38 : decode b_Mo_back 38 = .ok (.ireturn, 1) := by decide +kernel
theorem f_q_back_8_1 : mblkB b_Mo_back [(8, .bipush (-3), vi (-3))] = true := by decide +kernel
theorem e_q_back_10 : decode b_Mo_back 10 = .ok (.ireturn, 1) := by decide +kernel
set_option maxHeartbeats 40000000 in
set_option maxRecDepth 100000 in
theorem q_back (l : Launch) (D : va_G) (B : Nat) (H0 : Heap) (ad : mAd) (A : mA) (hT : mTy A)  (hI : mI A)  : mMet l D B H0 ad y_Mo_back b_Mo_back 1 (some .int) 920 23600 [vr 0 0] A (fun v9 A9 => ∃ z : Int, v9 = some (vi z) ∧ mTy A9 ∧ mEq bm A A9 ∧ (-2147483648 ≤ z ∧ z ≤ 2147483647) ∧ (∀ j : Nat, j < 6 → A9 8 0 j = if A 0 0 37 = -1 then A 8 0 j else A 10 0 j) ∧ (mI A9)) := by
  refine m_met (by decide) rfl (fun g w0 C Rm Y E => ?_)
  have hE0 : mEq bm A A := mEq.rfl'
  show JM g D ad w0 A 0 [(0, vr 0 0)] []
  have r0 : 0 ≤ A 0 0 0 ∧ A 0 0 0 ≤ 6 := hT 0 0 0
  refine m_blk 1 [(0, vr 0 0)] [vr 0 0] C f_q_back_0_1 rfl ?_
  obtain ⟨x1, hx1⟩ : ∃ x, A 0 0 37 = x := ⟨_, rfl⟩
  have rx1 : (-1) ≤ x1 ∧ x1 ≤ 6 := mrg hT hx1 rfl
  refine m_geti C e_q_back_1 fg_Mo_85 rfl (by decide) rfl x1 hx1 ?_
  refine m_blk 5 [(0, vr 0 0)] [vi (-1), vi x1] C f_q_back_4_1 rfl ?_
  refine m_icmp_ne (tgt := 11) C e_q_back_5 (by decide) (by omega) (by decide) (fun c2 => ?_) (fun c2 => ?_)
  · refine m_blk 13 [(0, vr 0 0)] [vr 0 0, vr 0 0] C f_q_back_11_2 rfl ?_
    refine m_geti C e_q_back_13 fg_Mo_85 rfl (by decide) rfl x1 hx1 ?_
    refine m_puti C e_q_back_16 fp_Mo_105 rfl (by decide) rfl ?_
    have t3 : mTy (mu A 0 0 0 x1) := hT.mu (by show 0 ≤ x1 ∧ x1 ≤ 6; omega)
    have q4 := hE0.mu (f := 0) (k := 0) (j := 0) (z := x1) (by simp [bm])
    refine m_blk 20 [(0, vr 0 0)] [vr 0 0] C f_q_back_19_1 rfl ?_
    refine m_getr C e_q_back_20 fg_Mo_89 rfl (by decide) rfl ?_
    refine m_blk 25 [(0, vr 0 0)] [vr 0 0, vi 0, vr 10 0] C f_q_back_23_2 rfl ?_
    refine m_getr C e_q_back_25 fg_Mo_60 rfl (by decide) rfl ?_
    refine m_blk 31 [(0, vr 0 0)] [vi 6, vi 0, vr 8 0, vi 0, vr 10 0] C f_q_back_28_2 rfl ?_
    refine m_copyi C Rm cl_Mo_428 e_q_back_31 rfl (by decide) rfl (by decide) (by decide) (by decide) (by decide) (by decide) (by show _ ≤ ((6 : Nat) : Int); omega) (by show _ ≤ ((6 : Nat) : Int); omega) (by decide) (Nat.le_of_ble_eq_true rfl) ?_
    have t5 : mTy (mcp (mu A 0 0 0 x1) 10 0 0 8 0 0 6) := t3.cp (fun _ _ => rfl)
    have q6 : mEq bm A (mcp (mu A 0 0 0 x1) 10 0 0 8 0 0 6) := q4.cp (by intro j; simp [bm])
    refine m_blk 35 [(0, vr 0 0)] [vr 0 0] C f_q_back_34_1 rfl ?_
    refine m_geti C e_q_back_35 fg_Mo_105 rfl (by decide) rfl x1 rfl ?_
    exact m_iret C Rm E e_q_back_38 ⟨x1, rfl, t5, q6, (by show -2147483648 ≤ x1 ∧ x1 ≤ 2147483647; omega), (fun j hj => by rw [if_neg (by omega)]; show (if 8 = 8 ∧ 0 = 0 ∧ (Int.toNat 0) ≤ j ∧ j < (Int.toNat 0) + (Int.toNat 6) then _ else _) = _; rw [if_pos ⟨rfl, rfl, Nat.zero_le _, by show j < 0 + 6; omega⟩]; show A 10 0 (0 + (j - 0)) = _; rw [show 0 + (j - 0) = j by omega]), (hI.bmk q6 (by rw [mcp_fk _ (by decide)]; show x1 = A 0 0 37; omega))⟩
  · refine m_blk 10 [(0, vr 0 0)] [vi (-3)] C f_q_back_8_1 rfl ?_
    exact m_iret C Rm E e_q_back_10 ⟨(-3), rfl, hT, hE0, (by show -2147483648 ≤ (-3) ∧ (-3) ≤ 2147483647; omega), (fun j _ => by rw [if_pos (by omega)]), (hI.mk0 (S := nm0) (fun _ _ _ _ => rfl) (fun _ _ _ _ => rfl))⟩

theorem f_q_count_0_1 : mblkB b_Mo_count [(0, .iload_n 1, vi 0)] = true := by decide +kernel
theorem e_q_count_1 : decode b_Mo_count 1 = .ok (.ifCond .ne 10, 3) := by decide +kernel
theorem f_q_count_11_2 : mblkB b_Mo_count [(11, .iload_n 1, vi 0), (12, .iconst 1, vi 1)] = true := by decide +kernel
theorem e_q_count_13 : decode b_Mo_count 13 = .ok (.if_icmp .ne 10, 3) := by decide +kernel
theorem f_q_count_23_2 : mblkB b_Mo_count [(23, .iload_n 1, vi 0), (24, .iconst 2, vi 2)] = true := by decide +kernel
theorem e_q_count_25 : decode b_Mo_count 25 = .ok (.if_icmp .ne 10, 3) := by decide +kernel
theorem f_q_count_35_1 : mblkB b_Mo_count [(35, .bipush (-2), vi (-2))] = true := by decide +kernel
theorem e_q_count_37 : decode b_Mo_count 37 = .ok (.ireturn, 1) := by decide +kernel
theorem f_q_count_28_1 : mblkB b_Mo_count [(28, .aload_n 0, vi 0)] = true := by decide +kernel
theorem e_q_count_29 : decode b_Mo_count 29 = .ok (.invokevirtual 358, 3) := by decide +kernel
theorem f_q_count_32_1 : mblkB b_Mo_count [(32, .goto 5, vi 37)] = true := by decide +kernel
theorem f_q_count_16_1 : mblkB b_Mo_count [(16, .aload_n 0, vi 0)] = true := by decide +kernel
theorem e_q_count_17 : decode b_Mo_count 17 = .ok (.getfield 116, 3) := by decide +kernel
theorem f_q_count_20_1 : mblkB b_Mo_count [(20, .goto 17, vi 37)] = true := by decide +kernel
theorem f_q_count_4_1 : mblkB b_Mo_count [(4, .aload_n 0, vi 0)] = true := by decide +kernel
theorem e_q_count_5 : decode b_Mo_count 5 = .ok (.getfield 105, 3) := by decide +kernel
theorem f_q_count_8_1 : mblkB b_Mo_count [(8, .goto 29, vi 37)] = true := by decide +kernel
set_option maxHeartbeats 40000000 in
set_option maxRecDepth 100000 in
theorem q_count (l : Launch) (D : va_G) (B : Nat) (H0 : Heap) (ad : mAd) (A : mA) (hT : mTy A)  (w : Int) (hwr : -2147483648 ≤ w ∧ w ≤ 2147483647) (hI : mI A)  : mMet l D B H0 ad y_Mo_count b_Mo_count 2 (some .int) 920 23600 [vr 0 0, vi w] A (fun v9 A9 => ∃ z : Int, v9 = some (vi z) ∧ mTy A9 ∧ mEq nm0 A A9 ∧ (-2147483648 ≤ z ∧ z ≤ 2147483647) ∧ (mI A9)) := by
  refine m_met (by decide) rfl (fun g w0 C Rm Y E => ?_)
  have hE0 : mEq nm0 A A := mEq.rfl'
  show JM g D ad w0 A 0 [(0, vr 0 0), (1, vi w)] []
  have r0 : 0 ≤ A 0 0 0 ∧ A 0 0 0 ≤ 6 := hT 0 0 0
  refine m_blk 1 [(0, vr 0 0), (1, vi w)] [vi w] C f_q_count_0_1 rfl ?_
  refine m_if_ne (tgt := 11) C e_q_count_1 (by decide) (by omega) (fun c1 => ?_) (fun c1 => ?_)
  · refine m_blk 13 [(0, vr 0 0), (1, vi w)] [vi 1, vi w] C f_q_count_11_2 rfl ?_
    refine m_icmp_ne (tgt := 23) C e_q_count_13 (by decide) (by omega) (by decide) (fun c2 => ?_) (fun c2 => ?_)
    · refine m_blk 25 [(0, vr 0 0), (1, vi w)] [vi 2, vi w] C f_q_count_23_2 rfl ?_
      refine m_icmp_ne (tgt := 35) C e_q_count_25 (by decide) (by omega) (by decide) (fun c3 => ?_) (fun c3 => ?_)
      · refine m_blk 37 [(0, vr 0 0), (1, vi w)] [vi (-2)] C f_q_count_35_1 rfl ?_
        exact m_iret C Rm E e_q_count_37 ⟨(-2), rfl, hT, hE0, (by show -2147483648 ≤ (-2) ∧ (-2) ≤ 2147483647; omega), (hI.nmk hE0)⟩
      · refine m_blk 29 [(0, vr 0 0), (1, vi w)] [vr 0 0] C f_q_count_28_1 rfl ?_
        refine m_callV C Rm Y [] [] (q_startState l D B H0 ad _ hT) cl_Mo_358 rfl (by decide) rfl rfl e_q_count_29 rfl rfl rfl ⟨by decide, by decide⟩ ?_
        rintro v4 A5 ⟨z8, rfl, rfl, raw_hz_n7⟩
        have hz_n7 : 0 ≤ z8 ∧ z8 ≤ 999999 ∧ z8 = ((((A 8 0 0 * 10 + A 8 0 1) * 10 + A 8 0 2) * 10 + A 8 0 3) * 10 + A 8 0 4) * 10 + A 8 0 5 := raw_hz_n7
        clear raw_hz_n7
        show JM g D ad w0 A 32 [(0, vr 0 0), (1, vi w)] [vi z8]
        refine m_blk 37 [(0, vr 0 0), (1, vi w)] [vi z8] C f_q_count_32_1 rfl ?_
        exact m_iret C Rm E e_q_count_37 ⟨z8, rfl, hT, hE0, (by show -2147483648 ≤ z8 ∧ z8 ≤ 2147483647; omega), (hI.nmk hE0)⟩
    · refine m_blk 17 [(0, vr 0 0), (1, vi w)] [vr 0 0] C f_q_count_16_1 rfl ?_
      obtain ⟨x9, hx9⟩ : ∃ x, A 0 0 22 = x := ⟨_, rfl⟩
      have rx9 : 0 ≤ x9 ∧ x9 ≤ 120 := mrg hT hx9 rfl
      refine m_geti C e_q_count_17 fg_Mo_116 rfl (by decide) rfl x9 hx9 ?_
      refine m_blk 37 [(0, vr 0 0), (1, vi w)] [vi x9] C f_q_count_20_1 rfl ?_
      exact m_iret C Rm E e_q_count_37 ⟨x9, rfl, hT, hE0, (by show -2147483648 ≤ x9 ∧ x9 ≤ 2147483647; omega), (hI.nmk hE0)⟩
  · refine m_blk 5 [(0, vr 0 0), (1, vi w)] [vr 0 0] C f_q_count_4_1 rfl ?_
    obtain ⟨x10, hx10⟩ : ∃ x, A 0 0 0 = x := ⟨_, rfl⟩
    have rx10 : 0 ≤ x10 ∧ x10 ≤ 6 := mrg hT hx10 rfl
    refine m_geti C e_q_count_5 fg_Mo_105 rfl (by decide) rfl x10 hx10 ?_
    refine m_blk 37 [(0, vr 0 0), (1, vi w)] [vi x10] C f_q_count_8_1 rfl ?_
    exact m_iret C Rm E e_q_count_37 ⟨x10, rfl, hT, hE0, (by show -2147483648 ≤ x10 ∧ x10 ≤ 2147483647; omega), (hI.nmk hE0)⟩

theorem f_q_feed_0_3 : mblkB b_Mo_feed [(0, .iload_n 1, vi 0), (1, .iconst 1, vi 1), (2, .iconst 5, vi 5)] = true := by decide +kernel
theorem e_q_feed_3 : decode b_Mo_feed 3 = .ok (.invokestatic 108, 3) := by decide +kernel
theorem e_q_feed_6 : decode b_Mo_feed 6 = .ok (.ifCond .eq 41, 3) := by decide +kernel
theorem f_q_feed_9_1 : mblkB b_Mo_feed [(9, .iload_n 2, vi 0)] = true := by decide +kernel
theorem e_q_feed_10 : decode b_Mo_feed 10 = .ok (.invokestatic 112, 3) := by decide +kernel
theorem e_q_feed_13 : decode b_Mo_feed 13 = .ok (.ifCond .eq 34, 3) := by decide +kernel
theorem f_q_feed_16_1 : mblkB b_Mo_feed [(16, .iload_n 3, vi 0)] = true := by decide +kernel
theorem e_q_feed_17 : decode b_Mo_feed 17 = .ok (.invokestatic 112, 3) := by decide +kernel
theorem e_q_feed_20 : decode b_Mo_feed 20 = .ok (.ifCond .eq 27, 3) := by decide +kernel
theorem f_q_feed_23_1 : mblkB b_Mo_feed [(23, .iload 4, vi 0)] = true := by decide +kernel
theorem e_q_feed_25 : decode b_Mo_feed 25 = .ok (.invokestatic 112, 3) := by decide +kernel
theorem e_q_feed_28 : decode b_Mo_feed 28 = .ok (.ifCond .eq 19, 3) := by decide +kernel
theorem f_q_feed_31_1 : mblkB b_Mo_feed [(31, .iload 5, vi 0)] = true := by decide +kernel
theorem e_q_feed_33 : decode b_Mo_feed 33 = .ok (.invokestatic 112, 3) := by decide +kernel
theorem e_q_feed_36 : decode b_Mo_feed 36 = .ok (.ifCond .eq 11, 3) := by decide +kernel
theorem f_q_feed_39_1 : mblkB b_Mo_feed [(39, .iload 6, vi 0)] = true := by decide +kernel
theorem e_q_feed_41 : decode b_Mo_feed 41 = .ok (.invokestatic 112, 3) := by decide +kernel
theorem e_q_feed_44 : decode b_Mo_feed 44 = .ok (.ifCond .ne 6, 3) := by decide +kernel
theorem f_q_feed_50_1 : mblkB b_Mo_feed [(50, .aload_n 0, vi 0)] = true := by decide +kernel
theorem e_q_feed_51 : decode b_Mo_feed 51 = .ok (.getfield 116, 3) := by decide +kernel
theorem f_q_feed_54_3 : mblkB b_Mo_feed [(54, .iload_n 1, vi 0), (55, .iadd, vi 0), (56, .bipush 120, vi 120)] = true := by decide +kernel
theorem e_q_feed_58 : decode b_Mo_feed 58 = .ok (.if_icmp .le 6, 3) := by decide +kernel
theorem f_q_feed_64_2 : mblkB b_Mo_feed [(64, .iconst 0, vi 0), (65, .istore 7, vi 0)] = true := by decide +kernel
theorem f_q_feed_67_2 : mblkB b_Mo_feed [(67, .iload 7, vi 0), (69, .iload_n 1, vi 0)] = true := by decide +kernel
theorem e_q_feed_70 : decode b_Mo_feed 70 = .ok (.if_icmp .ge 64, 3) := by decide +kernel
theorem f_q_feed_134_2 : mblkB b_Mo_feed [(134, .aload_n 0, vi 0), (135, .dup, vi 0)] = true := by decide +kernel
theorem e_q_feed_136 : decode b_Mo_feed 136 = .ok (.getfield 116, 3) := by decide +kernel
theorem f_q_feed_139_2 : mblkB b_Mo_feed [(139, .iload_n 1, vi 0), (140, .iadd, vi 0)] = true := by decide +kernel
theorem e_q_feed_141 : decode b_Mo_feed 141 = .ok (.putfield 116, 3) := by decide +kernel
theorem f_q_feed_144_1 : mblkB b_Mo_feed [(144, .aload_n 0, vi 0)] = true := by decide +kernel
theorem e_q_feed_145 : decode b_Mo_feed 145 = .ok (.getfield 116, 3) := by decide +kernel
theorem e_q_feed_148 : decode b_Mo_feed 148 = .ok (.ireturn, 1) := by decide +kernel
theorem f_q_feed_73_1 : mblkB b_Mo_feed [(73, .aload_n 0, vi 0)] = true := by decide +kernel
theorem e_q_feed_74 : decode b_Mo_feed 74 = .ok (.getfield 76, 3) := by decide +kernel
theorem f_q_feed_77_1 : mblkB b_Mo_feed [(77, .aload_n 0, vi 0)] = true := by decide +kernel
theorem e_q_feed_78 : decode b_Mo_feed 78 = .ok (.getfield 116, 3) := by decide +kernel
theorem f_q_feed_81_3 : mblkB b_Mo_feed [(81, .iload 7, vi 0), (83, .iadd, vi 0), (84, .iload 7, vi 0)] = true := by decide +kernel
theorem e_q_feed_86 : decode b_Mo_feed 86 = .ok (.ifCond .ne 7, 3) := by decide +kernel
theorem f_q_feed_93_2 : mblkB b_Mo_feed [(93, .iload 7, vi 0), (95, .iconst 1, vi 1)] = true := by decide +kernel
theorem e_q_feed_96 : decode b_Mo_feed 96 = .ok (.if_icmp .ne 7, 3) := by decide +kernel
theorem f_q_feed_103_2 : mblkB b_Mo_feed [(103, .iload 7, vi 0), (105, .iconst 2, vi 2)] = true := by decide +kernel
theorem e_q_feed_106 : decode b_Mo_feed 106 = .ok (.if_icmp .ne 8, 3) := by decide +kernel
theorem f_q_feed_114_2 : mblkB b_Mo_feed [(114, .iload 7, vi 0), (116, .iconst 3, vi 3)] = true := by decide +kernel
theorem e_q_feed_117 : decode b_Mo_feed 117 = .ok (.if_icmp .ne 8, 3) := by decide +kernel
theorem f_q_feed_125_1 : mblkB b_Mo_feed [(125, .iload 6, vi 0)] = true := by decide +kernel
theorem e_q_feed_127 : decode b_Mo_feed 127 = .ok (.iastore, 1) := by decide +kernel
theorem f_q_feed_128_2 : mblkB b_Mo_feed [(128, .iinc 7 1, vi 1), (131, .goto (-64), vi 67)] = true := by decide +kernel
theorem f_q_feed_120_2 : mblkB b_Mo_feed [(120, .iload 5, vi 0), (122, .goto 5, vi 127)] = true := by decide +kernel
theorem f_q_feed_109_2 : mblkB b_Mo_feed [(109, .iload 4, vi 0), (111, .goto 16, vi 127)] = true := by decide +kernel
theorem f_q_feed_99_2 : mblkB b_Mo_feed [(99, .iload_n 3, vi 0), (100, .goto 27, vi 127)] = true := by decide +kernel
theorem f_q_feed_89_2 : mblkB b_Mo_feed [(89, .iload_n 2, vi 0), (90, .goto 37, vi 127)] = true := by decide +kernel
theorem f_q_feed_61_1 : mblkB b_Mo_feed [(61, .bipush (-4), vi (-4))] = true := by decide +kernel
theorem e_q_feed_63 : decode b_Mo_feed 63 = .ok (.ireturn, 1) := by decide +kernel
theorem f_q_feed_47_1 : mblkB b_Mo_feed [(47, .bipush (-2), vi (-2))] = true := by decide +kernel
theorem e_q_feed_49 : decode b_Mo_feed 49 = .ok (.ireturn, 1) := by decide +kernel
set_option maxHeartbeats 40000000 in
set_option maxRecDepth 100000 in
theorem q_feed (l : Launch) (D : va_G) (B : Nat) (H0 : Heap) (ad : mAd) (A : mA) (hT : mTy A)  (n : Int) (a : Int) (b : Int) (c : Int) (d : Int) (e : Int) (hnr : -2147483648 ≤ n ∧ n ≤ 2147483647) (har : -2147483648 ≤ a ∧ a ≤ 2147483647) (hbr : -2147483648 ≤ b ∧ b ≤ 2147483647) (hcr : -2147483648 ≤ c ∧ c ≤ 2147483647) (hdr : -2147483648 ≤ d ∧ d ≤ 2147483647) (her : -2147483648 ≤ e ∧ e ≤ 2147483647) (hI : mI A)  : mMet l D B H0 ad y_Mo_feed b_Mo_feed 8 (some .int) 920 23600 [vr 0 0, vi n, vi a, vi b, vi c, vi d, vi e] A (fun v9 A9 => ∃ z : Int, v9 = some (vi z) ∧ mTy A9 ∧ mEq fm A A9 ∧ (-2147483648 ≤ z ∧ z ≤ 2147483647) ∧ (mI A9)) := by
  refine m_met (by decide) rfl (fun g w0 C Rm Y E => ?_)
  have hE0 : mEq fm A A := mEq.rfl'
  show JM g D ad w0 A 0 [(0, vr 0 0), (1, vi n), (2, vi a), (3, vi b), (4, vi c), (5, vi d), (6, vi e)] []
  have r0 : 0 ≤ A 0 0 0 ∧ A 0 0 0 ≤ 6 := hT 0 0 0
  refine m_blk 3 [(0, vr 0 0), (1, vi n), (2, vi a), (3, vi b), (4, vi c), (5, vi d), (6, vi e)] [vi 5, vi 1, vi n] C f_q_feed_0_3 rfl ?_
  refine m_callS C Rm Y [vi n, vi 1, vi 5] [] (q_in l D B H0 ad _ n 1 5 (by show -2147483648 ≤ n ∧ n ≤ 2147483647; omega) (by show -2147483648 ≤ 1 ∧ 1 ≤ 2147483647; omega) (by show -2147483648 ≤ 5 ∧ 5 ≤ 2147483647; omega)) cl_Mo_108 e_q_feed_3 rfl rfl rfl ⟨by decide, by decide⟩ ?_
  rintro v1 A2 ⟨z5, rfl, rfl, raw_hz_n4⟩
  show JM g D ad w0 A 6 [(0, vr 0 0), (1, vi n), (2, vi a), (3, vi b), (4, vi c), (5, vi d), (6, vi e)] [vi z5]
  have hz_n4 : z5 = 1 ∧ 1 ≤ n ∧ n ≤ 5 ∨ z5 = 0 ∧ ¬ (1 ≤ n ∧ n ≤ 5) := raw_hz_n4
  clear raw_hz_n4
  rcases hz_n4 with ⟨e_n4, hz_n4⟩ | ⟨e_n4, hz_n4⟩
  · subst e_n4
    refine m_if_eq (tgt := 47) C e_q_feed_6 (by decide) (by decide) (fun c6 => (by omega : False).elim) (fun c6 => ?_)
    refine m_blk 10 [(0, vr 0 0), (1, vi n), (2, vi a), (3, vi b), (4, vi c), (5, vi d), (6, vi e)] [vi a] C f_q_feed_9_1 rfl ?_
    refine m_callS C Rm Y [vi a] [] (q_isByte l D B H0 ad _ a (by show -2147483648 ≤ a ∧ a ≤ 2147483647; omega)) cl_Mo_112 e_q_feed_10 rfl rfl rfl ⟨by decide, by decide⟩ ?_
    rintro v7 A8 ⟨z11, rfl, rfl, raw_hz_n10⟩
    show JM g D ad w0 A 13 [(0, vr 0 0), (1, vi n), (2, vi a), (3, vi b), (4, vi c), (5, vi d), (6, vi e)] [vi z11]
    have hz_n10 : z11 = 1 ∧ 0 ≤ a ∧ a ≤ 255 ∨ z11 = 0 ∧ ¬ (0 ≤ a ∧ a ≤ 255) := raw_hz_n10
    clear raw_hz_n10
    rcases hz_n10 with ⟨e_n10, hz_n10⟩ | ⟨e_n10, hz_n10⟩
    · subst e_n10
      refine m_if_eq (tgt := 47) C e_q_feed_13 (by decide) (by decide) (fun c12 => (by omega : False).elim) (fun c12 => ?_)
      refine m_blk 17 [(0, vr 0 0), (1, vi n), (2, vi a), (3, vi b), (4, vi c), (5, vi d), (6, vi e)] [vi b] C f_q_feed_16_1 rfl ?_
      refine m_callS C Rm Y [vi b] [] (q_isByte l D B H0 ad _ b (by show -2147483648 ≤ b ∧ b ≤ 2147483647; omega)) cl_Mo_112 e_q_feed_17 rfl rfl rfl ⟨by decide, by decide⟩ ?_
      rintro v13 A14 ⟨z17, rfl, rfl, raw_hz_n16⟩
      show JM g D ad w0 A 20 [(0, vr 0 0), (1, vi n), (2, vi a), (3, vi b), (4, vi c), (5, vi d), (6, vi e)] [vi z17]
      have hz_n16 : z17 = 1 ∧ 0 ≤ b ∧ b ≤ 255 ∨ z17 = 0 ∧ ¬ (0 ≤ b ∧ b ≤ 255) := raw_hz_n16
      clear raw_hz_n16
      rcases hz_n16 with ⟨e_n16, hz_n16⟩ | ⟨e_n16, hz_n16⟩
      · subst e_n16
        refine m_if_eq (tgt := 47) C e_q_feed_20 (by decide) (by decide) (fun c18 => (by omega : False).elim) (fun c18 => ?_)
        refine m_blk 25 [(0, vr 0 0), (1, vi n), (2, vi a), (3, vi b), (4, vi c), (5, vi d), (6, vi e)] [vi c] C f_q_feed_23_1 rfl ?_
        refine m_callS C Rm Y [vi c] [] (q_isByte l D B H0 ad _ c (by show -2147483648 ≤ c ∧ c ≤ 2147483647; omega)) cl_Mo_112 e_q_feed_25 rfl rfl rfl ⟨by decide, by decide⟩ ?_
        rintro v19 A20 ⟨z23, rfl, rfl, raw_hz_n22⟩
        show JM g D ad w0 A 28 [(0, vr 0 0), (1, vi n), (2, vi a), (3, vi b), (4, vi c), (5, vi d), (6, vi e)] [vi z23]
        have hz_n22 : z23 = 1 ∧ 0 ≤ c ∧ c ≤ 255 ∨ z23 = 0 ∧ ¬ (0 ≤ c ∧ c ≤ 255) := raw_hz_n22
        clear raw_hz_n22
        rcases hz_n22 with ⟨e_n22, hz_n22⟩ | ⟨e_n22, hz_n22⟩
        · subst e_n22
          refine m_if_eq (tgt := 47) C e_q_feed_28 (by decide) (by decide) (fun c24 => (by omega : False).elim) (fun c24 => ?_)
          refine m_blk 33 [(0, vr 0 0), (1, vi n), (2, vi a), (3, vi b), (4, vi c), (5, vi d), (6, vi e)] [vi d] C f_q_feed_31_1 rfl ?_
          refine m_callS C Rm Y [vi d] [] (q_isByte l D B H0 ad _ d (by show -2147483648 ≤ d ∧ d ≤ 2147483647; omega)) cl_Mo_112 e_q_feed_33 rfl rfl rfl ⟨by decide, by decide⟩ ?_
          rintro v25 A26 ⟨z29, rfl, rfl, raw_hz_n28⟩
          show JM g D ad w0 A 36 [(0, vr 0 0), (1, vi n), (2, vi a), (3, vi b), (4, vi c), (5, vi d), (6, vi e)] [vi z29]
          have hz_n28 : z29 = 1 ∧ 0 ≤ d ∧ d ≤ 255 ∨ z29 = 0 ∧ ¬ (0 ≤ d ∧ d ≤ 255) := raw_hz_n28
          clear raw_hz_n28
          rcases hz_n28 with ⟨e_n28, hz_n28⟩ | ⟨e_n28, hz_n28⟩
          · subst e_n28
            refine m_if_eq (tgt := 47) C e_q_feed_36 (by decide) (by decide) (fun c30 => (by omega : False).elim) (fun c30 => ?_)
            refine m_blk 41 [(0, vr 0 0), (1, vi n), (2, vi a), (3, vi b), (4, vi c), (5, vi d), (6, vi e)] [vi e] C f_q_feed_39_1 rfl ?_
            refine m_callS C Rm Y [vi e] [] (q_isByte l D B H0 ad _ e (by show -2147483648 ≤ e ∧ e ≤ 2147483647; omega)) cl_Mo_112 e_q_feed_41 rfl rfl rfl ⟨by decide, by decide⟩ ?_
            rintro v31 A32 ⟨z35, rfl, rfl, raw_hz_n34⟩
            show JM g D ad w0 A 44 [(0, vr 0 0), (1, vi n), (2, vi a), (3, vi b), (4, vi c), (5, vi d), (6, vi e)] [vi z35]
            have hz_n34 : z35 = 1 ∧ 0 ≤ e ∧ e ≤ 255 ∨ z35 = 0 ∧ ¬ (0 ≤ e ∧ e ≤ 255) := raw_hz_n34
            clear raw_hz_n34
            rcases hz_n34 with ⟨e_n34, hz_n34⟩ | ⟨e_n34, hz_n34⟩
            · subst e_n34
              refine m_if_ne (tgt := 50) C e_q_feed_44 (by decide) (by decide) (fun c36 => ?_) (fun c36 => (by omega : False).elim)
              have rt9 : 0 ≤ A 0 0 22 ∧ A 0 0 22 ≤ 120 := hT 0 0 22
              refine m_blk 51 [(0, vr 0 0), (1, vi n), (2, vi a), (3, vi b), (4, vi c), (5, vi d), (6, vi e)] [vr 0 0] C f_q_feed_50_1 rfl ?_
              obtain ⟨x37, hx37⟩ : ∃ x, A 0 0 22 = x := ⟨_, rfl⟩
              have rx37 : 0 ≤ x37 ∧ x37 ≤ 120 := mrg hT hx37 rfl
              refine m_geti C e_q_feed_51 fg_Mo_116 rfl (by decide) rfl x37 hx37 ?_
              refine m_blk 58 [(0, vr 0 0), (1, vi n), (2, vi a), (3, vi b), (4, vi c), (5, vi d), (6, vi e)] [vi 120, vi (x37 + n)] C f_q_feed_54_3 rfl ?_
              refine m_icmp_le (tgt := 64) C e_q_feed_58 (by decide) (by omega) (by decide) (fun c38 => ?_) (fun c38 => ?_)
              · refine m_blk 67 [(7, vi 0), (0, vr 0 0), (1, vi n), (2, vi a), (3, vi b), (4, vi c), (5, vi d), (6, vi e)] [] C f_q_feed_64_2 rfl ?_
                have hd_67 : ∀ (NZ : Nat) (A2 : mA) (k : Int), mTy A2 → mEq fm A A2 → 0 ≤ k ∧ k ≤ n → A2 0 0 22 = A 0 0 22 → (40 - k) < (NZ : Int) → JM g D ad w0 A2 67 [(7, vi k), (0, vr 0 0), (1, vi n), (2, vi a), (3, vi b), (4, vi c), (5, vi d), (6, vi e)] [] := by
                  intro NZ
                  induction NZ with
                  | zero => intro A2 k hT2 hE2 hk2 ht2 hm67; exact absurd hm67 (by omega)
                  | succ NZ ih67 =>
                    intro A2 k hT2 hE2 hk2 ht2 hm67
                    refine m_blk 70 [(7, vi k), (0, vr 0 0), (1, vi n), (2, vi a), (3, vi b), (4, vi c), (5, vi d), (6, vi e)] [vi n, vi k] C f_q_feed_67_2 rfl ?_
                    refine m_icmp_ge (tgt := 134) C e_q_feed_70 (by decide) (by omega) (by omega) (fun c39 => ?_) (fun c39 => ?_)
                    · refine m_blk 136 [(7, vi k), (0, vr 0 0), (1, vi n), (2, vi a), (3, vi b), (4, vi c), (5, vi d), (6, vi e)] [vr 0 0, vr 0 0] C f_q_feed_134_2 rfl ?_
                      obtain ⟨x40, hx40⟩ : ∃ x, A2 0 0 22 = x := ⟨_, rfl⟩
                      have rx40 : 0 ≤ x40 ∧ x40 ≤ 120 := mrg hT2 hx40 rfl
                      refine m_geti C e_q_feed_136 fg_Mo_116 rfl (by decide) rfl x40 hx40 ?_
                      refine m_blk 141 [(7, vi k), (0, vr 0 0), (1, vi n), (2, vi a), (3, vi b), (4, vi c), (5, vi d), (6, vi e)] [vi (x40 + n), vr 0 0] C f_q_feed_139_2 rfl ?_
                      refine m_puti C e_q_feed_141 fp_Mo_116 rfl (by decide) rfl ?_
                      have t41 : mTy (mu A2 0 0 22 (x40 + n)) := hT2.mu (by show 0 ≤ (x40 + n) ∧ (x40 + n) ≤ 120; omega)
                      have q42 := hE2.mu (f := 0) (k := 0) (j := 22) (z := (x40 + n)) (by simp [fm])
                      refine m_blk 145 [(7, vi k), (0, vr 0 0), (1, vi n), (2, vi a), (3, vi b), (4, vi c), (5, vi d), (6, vi e)] [vr 0 0] C f_q_feed_144_1 rfl ?_
                      refine m_geti C e_q_feed_145 fg_Mo_116 rfl (by decide) rfl (x40 + n) rfl ?_
                      exact m_iret C Rm E e_q_feed_148 ⟨(x40 + n), rfl, t41, q42, (by show -2147483648 ≤ (x40 + n) ∧ (x40 + n) ≤ 2147483647; omega), (hI.fmk q42)⟩
                    · refine m_blk 74 [(7, vi k), (0, vr 0 0), (1, vi n), (2, vi a), (3, vi b), (4, vi c), (5, vi d), (6, vi e)] [vr 0 0] C f_q_feed_73_1 rfl ?_
                      refine m_getr C e_q_feed_74 fg_Mo_76 rfl (by decide) rfl ?_
                      refine m_blk 78 [(7, vi k), (0, vr 0 0), (1, vi n), (2, vi a), (3, vi b), (4, vi c), (5, vi d), (6, vi e)] [vr 0 0, vr 9 0] C f_q_feed_77_1 rfl ?_
                      obtain ⟨x43, hx43⟩ : ∃ x, A2 0 0 22 = x := ⟨_, rfl⟩
                      have rx43 : 0 ≤ x43 ∧ x43 ≤ 120 := mrg hT2 hx43 rfl
                      refine m_geti C e_q_feed_78 fg_Mo_116 rfl (by decide) rfl x43 hx43 ?_
                      refine m_blk 86 [(7, vi k), (0, vr 0 0), (1, vi n), (2, vi a), (3, vi b), (4, vi c), (5, vi d), (6, vi e)] [vi k, vi (x43 + k), vr 9 0] C f_q_feed_81_3 rfl ?_
                      refine m_if_ne (tgt := 93) C e_q_feed_86 (by decide) (by omega) (fun c44 => ?_) (fun c44 => ?_)
                      · refine m_blk 96 [(7, vi k), (0, vr 0 0), (1, vi n), (2, vi a), (3, vi b), (4, vi c), (5, vi d), (6, vi e)] [vi 1, vi k, vi (x43 + k), vr 9 0] C f_q_feed_93_2 rfl ?_
                        refine m_icmp_ne (tgt := 103) C e_q_feed_96 (by decide) (by omega) (by decide) (fun c45 => ?_) (fun c45 => ?_)
                        · refine m_blk 106 [(7, vi k), (0, vr 0 0), (1, vi n), (2, vi a), (3, vi b), (4, vi c), (5, vi d), (6, vi e)] [vi 2, vi k, vi (x43 + k), vr 9 0] C f_q_feed_103_2 rfl ?_
                          refine m_icmp_ne (tgt := 114) C e_q_feed_106 (by decide) (by omega) (by decide) (fun c46 => ?_) (fun c46 => ?_)
                          · refine m_blk 117 [(7, vi k), (0, vr 0 0), (1, vi n), (2, vi a), (3, vi b), (4, vi c), (5, vi d), (6, vi e)] [vi 3, vi k, vi (x43 + k), vr 9 0] C f_q_feed_114_2 rfl ?_
                            refine m_icmp_ne (tgt := 125) C e_q_feed_117 (by decide) (by omega) (by decide) (fun c47 => ?_) (fun c47 => ?_)
                            · refine m_blk 127 [(7, vi k), (0, vr 0 0), (1, vi n), (2, vi a), (3, vi b), (4, vi c), (5, vi d), (6, vi e)] [vi e, vi (x43 + k), vr 9 0] C f_q_feed_125_1 rfl ?_
                              refine m_iast C e_q_feed_127 rfl (by decide) (by decide) (by omega) (by show (x43 + k) < ((120 : Nat) : Int); omega) ?_
                              have t48 : mTy (mu A2 9 0 ((x43 + k).toNat) e) := hT2.mu (by show 0 ≤ e ∧ e ≤ 255; omega)
                              have q49 := hE2.mu (f := 9) (k := 0) (j := (x43 + k).toNat) (z := e) (by simp [fm])
                              refine m_blk 67 [(7, vi (k + 1)), (0, vr 0 0), (1, vi n), (2, vi a), (3, vi b), (4, vi c), (5, vi d), (6, vi e)] [] C f_q_feed_128_2 rfl ?_
                              refine m_loc [(7, vi (k + 1)), (0, vr 0 0), (1, vi n), (2, vi a), (3, vi b), (4, vi c), (5, vi d), (6, vi e)] ⟨rfl, rfl, rfl, rfl, rfl, rfl, rfl, rfl, trivial⟩ ?_
                              exact ih67 (mu A2 9 0 ((x43 + k).toNat) e) (k + 1) t48 q49 (by show 0 ≤ (k + 1) ∧ (k + 1) ≤ n; omega) (by show A2 0 0 22 = A 0 0 22; omega) (by show (40 - (k + 1)) < _; omega)
                            · refine m_blk 127 [(7, vi k), (0, vr 0 0), (1, vi n), (2, vi a), (3, vi b), (4, vi c), (5, vi d), (6, vi e)] [vi d, vi (x43 + k), vr 9 0] C f_q_feed_120_2 rfl ?_
                              refine m_iast C e_q_feed_127 rfl (by decide) (by decide) (by omega) (by show (x43 + k) < ((120 : Nat) : Int); omega) ?_
                              have t50 : mTy (mu A2 9 0 ((x43 + k).toNat) d) := hT2.mu (by show 0 ≤ d ∧ d ≤ 255; omega)
                              have q51 := hE2.mu (f := 9) (k := 0) (j := (x43 + k).toNat) (z := d) (by simp [fm])
                              refine m_blk 67 [(7, vi (k + 1)), (0, vr 0 0), (1, vi n), (2, vi a), (3, vi b), (4, vi c), (5, vi d), (6, vi e)] [] C f_q_feed_128_2 rfl ?_
                              refine m_loc [(7, vi (k + 1)), (0, vr 0 0), (1, vi n), (2, vi a), (3, vi b), (4, vi c), (5, vi d), (6, vi e)] ⟨rfl, rfl, rfl, rfl, rfl, rfl, rfl, rfl, trivial⟩ ?_
                              exact ih67 (mu A2 9 0 ((x43 + k).toNat) d) (k + 1) t50 q51 (by show 0 ≤ (k + 1) ∧ (k + 1) ≤ n; omega) (by show A2 0 0 22 = A 0 0 22; omega) (by show (40 - (k + 1)) < _; omega)
                          · refine m_blk 127 [(7, vi k), (0, vr 0 0), (1, vi n), (2, vi a), (3, vi b), (4, vi c), (5, vi d), (6, vi e)] [vi c, vi (x43 + k), vr 9 0] C f_q_feed_109_2 rfl ?_
                            refine m_iast C e_q_feed_127 rfl (by decide) (by decide) (by omega) (by show (x43 + k) < ((120 : Nat) : Int); omega) ?_
                            have t52 : mTy (mu A2 9 0 ((x43 + k).toNat) c) := hT2.mu (by show 0 ≤ c ∧ c ≤ 255; omega)
                            have q53 := hE2.mu (f := 9) (k := 0) (j := (x43 + k).toNat) (z := c) (by simp [fm])
                            refine m_blk 67 [(7, vi (k + 1)), (0, vr 0 0), (1, vi n), (2, vi a), (3, vi b), (4, vi c), (5, vi d), (6, vi e)] [] C f_q_feed_128_2 rfl ?_
                            refine m_loc [(7, vi (k + 1)), (0, vr 0 0), (1, vi n), (2, vi a), (3, vi b), (4, vi c), (5, vi d), (6, vi e)] ⟨rfl, rfl, rfl, rfl, rfl, rfl, rfl, rfl, trivial⟩ ?_
                            exact ih67 (mu A2 9 0 ((x43 + k).toNat) c) (k + 1) t52 q53 (by show 0 ≤ (k + 1) ∧ (k + 1) ≤ n; omega) (by show A2 0 0 22 = A 0 0 22; omega) (by show (40 - (k + 1)) < _; omega)
                        · refine m_blk 127 [(7, vi k), (0, vr 0 0), (1, vi n), (2, vi a), (3, vi b), (4, vi c), (5, vi d), (6, vi e)] [vi b, vi (x43 + k), vr 9 0] C f_q_feed_99_2 rfl ?_
                          refine m_iast C e_q_feed_127 rfl (by decide) (by decide) (by omega) (by show (x43 + k) < ((120 : Nat) : Int); omega) ?_
                          have t54 : mTy (mu A2 9 0 ((x43 + k).toNat) b) := hT2.mu (by show 0 ≤ b ∧ b ≤ 255; omega)
                          have q55 := hE2.mu (f := 9) (k := 0) (j := (x43 + k).toNat) (z := b) (by simp [fm])
                          refine m_blk 67 [(7, vi (k + 1)), (0, vr 0 0), (1, vi n), (2, vi a), (3, vi b), (4, vi c), (5, vi d), (6, vi e)] [] C f_q_feed_128_2 rfl ?_
                          refine m_loc [(7, vi (k + 1)), (0, vr 0 0), (1, vi n), (2, vi a), (3, vi b), (4, vi c), (5, vi d), (6, vi e)] ⟨rfl, rfl, rfl, rfl, rfl, rfl, rfl, rfl, trivial⟩ ?_
                          exact ih67 (mu A2 9 0 ((x43 + k).toNat) b) (k + 1) t54 q55 (by show 0 ≤ (k + 1) ∧ (k + 1) ≤ n; omega) (by show A2 0 0 22 = A 0 0 22; omega) (by show (40 - (k + 1)) < _; omega)
                      · refine m_blk 127 [(7, vi k), (0, vr 0 0), (1, vi n), (2, vi a), (3, vi b), (4, vi c), (5, vi d), (6, vi e)] [vi a, vi (x43 + k), vr 9 0] C f_q_feed_89_2 rfl ?_
                        refine m_iast C e_q_feed_127 rfl (by decide) (by decide) (by omega) (by show (x43 + k) < ((120 : Nat) : Int); omega) ?_
                        have t56 : mTy (mu A2 9 0 ((x43 + k).toNat) a) := hT2.mu (by show 0 ≤ a ∧ a ≤ 255; omega)
                        have q57 := hE2.mu (f := 9) (k := 0) (j := (x43 + k).toNat) (z := a) (by simp [fm])
                        refine m_blk 67 [(7, vi (k + 1)), (0, vr 0 0), (1, vi n), (2, vi a), (3, vi b), (4, vi c), (5, vi d), (6, vi e)] [] C f_q_feed_128_2 rfl ?_
                        refine m_loc [(7, vi (k + 1)), (0, vr 0 0), (1, vi n), (2, vi a), (3, vi b), (4, vi c), (5, vi d), (6, vi e)] ⟨rfl, rfl, rfl, rfl, rfl, rfl, rfl, rfl, trivial⟩ ?_
                        exact ih67 (mu A2 9 0 ((x43 + k).toNat) a) (k + 1) t56 q57 (by show 0 ≤ (k + 1) ∧ (k + 1) ≤ n; omega) (by show A2 0 0 22 = A 0 0 22; omega) (by show (40 - (k + 1)) < _; omega)
                refine m_loc [(7, vi 0), (0, vr 0 0), (1, vi n), (2, vi a), (3, vi b), (4, vi c), (5, vi d), (6, vi e)] ⟨rfl, rfl, rfl, rfl, rfl, rfl, rfl, rfl, trivial⟩ ?_
                exact hd_67 (Int.toNat ((40 - 0)) + 1) A 0 hT hE0 (by show 0 ≤ 0 ∧ 0 ≤ n; omega) (by show A 0 0 22 = A 0 0 22; omega) (by show (40 - 0) < _; omega)
              · refine m_blk 63 [(0, vr 0 0), (1, vi n), (2, vi a), (3, vi b), (4, vi c), (5, vi d), (6, vi e)] [vi (-4)] C f_q_feed_61_1 rfl ?_
                exact m_iret C Rm E e_q_feed_63 ⟨(-4), rfl, hT, hE0, (by show -2147483648 ≤ (-4) ∧ (-4) ≤ 2147483647; omega), (hI.fmk hE0)⟩
            · subst e_n34
              clear hz_n34
              refine m_if_ne (tgt := 50) C e_q_feed_44 (by decide) (by decide) (fun c58 => (by omega : False).elim) (fun c58 => ?_)
              refine m_blk 49 [(0, vr 0 0), (1, vi n), (2, vi a), (3, vi b), (4, vi c), (5, vi d), (6, vi e)] [vi (-2)] C f_q_feed_47_1 rfl ?_
              exact m_iret C Rm E e_q_feed_49 ⟨(-2), rfl, hT, hE0, (by show -2147483648 ≤ (-2) ∧ (-2) ≤ 2147483647; omega), (hI.fmk hE0)⟩
          · subst e_n28
            clear hz_n28
            refine m_if_eq (tgt := 47) C e_q_feed_36 (by decide) (by decide) (fun c59 => ?_) (fun c59 => (by omega : False).elim)
            refine m_blk 49 [(0, vr 0 0), (1, vi n), (2, vi a), (3, vi b), (4, vi c), (5, vi d), (6, vi e)] [vi (-2)] C f_q_feed_47_1 rfl ?_
            exact m_iret C Rm E e_q_feed_49 ⟨(-2), rfl, hT, hE0, (by show -2147483648 ≤ (-2) ∧ (-2) ≤ 2147483647; omega), (hI.fmk hE0)⟩
        · subst e_n22
          clear hz_n22
          refine m_if_eq (tgt := 47) C e_q_feed_28 (by decide) (by decide) (fun c60 => ?_) (fun c60 => (by omega : False).elim)
          refine m_blk 49 [(0, vr 0 0), (1, vi n), (2, vi a), (3, vi b), (4, vi c), (5, vi d), (6, vi e)] [vi (-2)] C f_q_feed_47_1 rfl ?_
          exact m_iret C Rm E e_q_feed_49 ⟨(-2), rfl, hT, hE0, (by show -2147483648 ≤ (-2) ∧ (-2) ≤ 2147483647; omega), (hI.fmk hE0)⟩
      · subst e_n16
        clear hz_n16
        refine m_if_eq (tgt := 47) C e_q_feed_20 (by decide) (by decide) (fun c61 => ?_) (fun c61 => (by omega : False).elim)
        refine m_blk 49 [(0, vr 0 0), (1, vi n), (2, vi a), (3, vi b), (4, vi c), (5, vi d), (6, vi e)] [vi (-2)] C f_q_feed_47_1 rfl ?_
        exact m_iret C Rm E e_q_feed_49 ⟨(-2), rfl, hT, hE0, (by show -2147483648 ≤ (-2) ∧ (-2) ≤ 2147483647; omega), (hI.fmk hE0)⟩
    · subst e_n10
      clear hz_n10
      refine m_if_eq (tgt := 47) C e_q_feed_13 (by decide) (by decide) (fun c62 => ?_) (fun c62 => (by omega : False).elim)
      refine m_blk 49 [(0, vr 0 0), (1, vi n), (2, vi a), (3, vi b), (4, vi c), (5, vi d), (6, vi e)] [vi (-2)] C f_q_feed_47_1 rfl ?_
      exact m_iret C Rm E e_q_feed_49 ⟨(-2), rfl, hT, hE0, (by show -2147483648 ≤ (-2) ∧ (-2) ≤ 2147483647; omega), (hI.fmk hE0)⟩
  · subst e_n4
    refine m_if_eq (tgt := 47) C e_q_feed_6 (by decide) (by decide) (fun c63 => ?_) (fun c63 => (by omega : False).elim)
    refine m_blk 49 [(0, vr 0 0), (1, vi n), (2, vi a), (3, vi b), (4, vi c), (5, vi d), (6, vi e)] [vi (-2)] C f_q_feed_47_1 rfl ?_
    exact m_iret C Rm E e_q_feed_49 ⟨(-2), rfl, hT, hE0, (by show -2147483648 ≤ (-2) ∧ (-2) ≤ 2147483647; omega), (hI.fmk hE0)⟩

theorem f_q_sheet_0_1 : mblkB b_Mo_sheet [(0, .iload_n 1, vi 0)] = true := by decide +kernel
theorem e_q_sheet_1 : decode b_Mo_sheet 1 = .ok (.invokestatic 422, 3) := by decide +kernel
theorem e_q_sheet_4 : decode b_Mo_sheet 4 = .ok (.ifCond .eq 22, 3) := by decide +kernel
theorem f_q_sheet_7_3 : mblkB b_Mo_sheet [(7, .iload_n 2, vi 0), (8, .iconst (-1), vi (-1)), (9, .iconst 1, vi 1)] = true := by decide +kernel
theorem e_q_sheet_10 : decode b_Mo_sheet 10 = .ok (.invokestatic 108, 3) := by decide +kernel
theorem e_q_sheet_13 : decode b_Mo_sheet 13 = .ok (.ifCond .eq 13, 3) := by decide +kernel
theorem f_q_sheet_16_1 : mblkB b_Mo_sheet [(16, .iload_n 2, vi 0)] = true := by decide +kernel
theorem e_q_sheet_17 : decode b_Mo_sheet 17 = .ok (.ifCond .lt 12, 3) := by decide +kernel
theorem f_q_sheet_29_1 : mblkB b_Mo_sheet [(29, .iload_n 2, vi 0)] = true := by decide +kernel
theorem e_q_sheet_30 : decode b_Mo_sheet 30 = .ok (.ifCond .lt 10, 3) := by decide +kernel
theorem f_q_sheet_40_1 : mblkB b_Mo_sheet [(40, .aload_n 0, vi 0)] = true := by decide +kernel
theorem e_q_sheet_41 : decode b_Mo_sheet 41 = .ok (.getfield 92, 3) := by decide +kernel
theorem f_q_sheet_44_2 : mblkB b_Mo_sheet [(44, .iload_n 1, vi 0), (45, .iload_n 2, vi 0)] = true := by decide +kernel
theorem e_q_sheet_46 : decode b_Mo_sheet 46 = .ok (.iastore, 1) := by decide +kernel
theorem f_q_sheet_47_1 : mblkB b_Mo_sheet [(47, .aload_n 0, vi 0)] = true := by decide +kernel
theorem e_q_sheet_48 : decode b_Mo_sheet 48 = .ok (.getfield 95, 3) := by decide +kernel
theorem f_q_sheet_51_2 : mblkB b_Mo_sheet [(51, .iload_n 1, vi 0), (52, .iload_n 2, vi 0)] = true := by decide +kernel
theorem e_q_sheet_53 : decode b_Mo_sheet 53 = .ok (.ifCond .ge 7, 3) := by decide +kernel
theorem f_q_sheet_60_1 : mblkB b_Mo_sheet [(60, .iload_n 3, vi 0)] = true := by decide +kernel
theorem e_q_sheet_61 : decode b_Mo_sheet 61 = .ok (.iastore, 1) := by decide +kernel
theorem f_q_sheet_62_2 : mblkB b_Mo_sheet [(62, .iconst 0, vi 0), (63, .istore 4, vi 0)] = true := by decide +kernel
theorem f_q_sheet_65_2 : mblkB b_Mo_sheet [(65, .iload 4, vi 0), (67, .bipush 40, vi 40)] = true := by decide +kernel
theorem e_q_sheet_69 : decode b_Mo_sheet 69 = .ok (.if_icmp .ge 19, 3) := by decide +kernel
theorem f_q_sheet_88_1 : mblkB b_Mo_sheet [(88, .iconst 1, vi 1)] = true := by decide +kernel
theorem e_q_sheet_89 : decode b_Mo_sheet 89 = .ok (.ireturn, 1) := by decide +kernel
theorem f_q_sheet_72_1 : mblkB b_Mo_sheet [(72, .aload_n 0, vi 0)] = true := by decide +kernel
theorem e_q_sheet_73 : decode b_Mo_sheet 73 = .ok (.getfield 98, 3) := by decide +kernel
theorem f_q_sheet_76_1 : mblkB b_Mo_sheet [(76, .iload_n 1, vi 0)] = true := by decide +kernel
theorem e_q_sheet_77 : decode b_Mo_sheet 77 = .ok (.aaload, 1) := by decide +kernel
theorem f_q_sheet_78_2 : mblkB b_Mo_sheet [(78, .iload 4, vi 0), (80, .iconst 0, vi 0)] = true := by decide +kernel
theorem e_q_sheet_81 : decode b_Mo_sheet 81 = .ok (.iastore, 1) := by decide +kernel
theorem f_q_sheet_82_2 : mblkB b_Mo_sheet [(82, .iinc 4 1, vi 1), (85, .goto (-20), vi 65)] = true := by decide +kernel
theorem f_q_sheet_56_2 : mblkB b_Mo_sheet [(56, .iconst 0, vi 0), (57, .goto 4, vi 61)] = true := by decide +kernel
theorem f_q_sheet_33_1 : mblkB b_Mo_sheet [(33, .iload_n 3, vi 0)] = true := by decide +kernel
theorem e_q_sheet_34 : decode b_Mo_sheet 34 = .ok (.ifCond .ge 6, 3) := by decide +kernel
theorem f_q_sheet_37_1 : mblkB b_Mo_sheet [(37, .bipush (-14), vi (-14))] = true := by decide +kernel
theorem e_q_sheet_39 : decode b_Mo_sheet 39 = .ok (.ireturn, 1) := by decide +kernel
theorem f_q_sheet_20_2 : mblkB b_Mo_sheet [(20, .iload_n 3, vi 0), (21, .bipush 40, vi 40)] = true := by decide +kernel
theorem e_q_sheet_23 : decode b_Mo_sheet 23 = .ok (.if_icmp .le 6, 3) := by decide +kernel
theorem f_q_sheet_26_1 : mblkB b_Mo_sheet [(26, .bipush (-2), vi (-2))] = true := by decide +kernel
theorem e_q_sheet_28 : decode b_Mo_sheet 28 = .ok (.ireturn, 1) := by decide +kernel
set_option maxHeartbeats 40000000 in
set_option maxRecDepth 100000 in
theorem q_sheet (l : Launch) (D : va_G) (B : Nat) (H0 : Heap) (ad : mAd) (A : mA) (hT : mTy A)  (s : Int) (t : Int) (n : Int) (hsr : -2147483648 ≤ s ∧ s ≤ 2147483647) (htr : -2147483648 ≤ t ∧ t ≤ 2147483647) (hnr : -2147483648 ≤ n ∧ n ≤ 2147483647) (hI : mI A)  : mMet l D B H0 ad y_Mo_sheet b_Mo_sheet 5 (some .int) 920 23600 [vr 0 0, vi s, vi t, vi n] A (fun v9 A9 => ∃ z : Int, v9 = some (vi z) ∧ mTy A9 ∧ mEq sm A A9 ∧ (z = ansheet s t n) ∧ (mI A9)) := by
  refine m_met (by decide) rfl (fun g w0 C Rm Y E => ?_)
  have hE0 : mEq sm A A := mEq.rfl'
  show JM g D ad w0 A 0 [(0, vr 0 0), (1, vi s), (2, vi t), (3, vi n)] []
  have r0 : 0 ≤ A 0 0 0 ∧ A 0 0 0 ≤ 6 := hT 0 0 0
  refine m_blk 1 [(0, vr 0 0), (1, vi s), (2, vi t), (3, vi n)] [vi s] C f_q_sheet_0_1 rfl ?_
  refine m_callS C Rm Y [vi s] [] (q_isSheet l D B H0 ad _ s (by show -2147483648 ≤ s ∧ s ≤ 2147483647; omega)) cl_Mo_422 e_q_sheet_1 rfl rfl rfl ⟨by decide, by decide⟩ ?_
  rintro v1 A2 ⟨z5, rfl, rfl, raw_hz_n4⟩
  show JM g D ad w0 A 4 [(0, vr 0 0), (1, vi s), (2, vi t), (3, vi n)] [vi z5]
  have hz_n4 : z5 = 1 ∧ 0 ≤ s ∧ s ≤ 3 ∨ z5 = 0 ∧ ¬ (0 ≤ s ∧ s ≤ 3) := raw_hz_n4
  clear raw_hz_n4
  rcases hz_n4 with ⟨e_n4, hz_n4⟩ | ⟨e_n4, hz_n4⟩
  · subst e_n4
    refine m_if_eq (tgt := 26) C e_q_sheet_4 (by decide) (by decide) (fun c6 => (by omega : False).elim) (fun c6 => ?_)
    refine m_blk 10 [(0, vr 0 0), (1, vi s), (2, vi t), (3, vi n)] [vi 1, vi (-1), vi t] C f_q_sheet_7_3 rfl ?_
    refine m_callS C Rm Y [vi t, vi (-1), vi 1] [] (q_in l D B H0 ad _ t (-1) 1 (by show -2147483648 ≤ t ∧ t ≤ 2147483647; omega) (by show -2147483648 ≤ (-1) ∧ (-1) ≤ 2147483647; omega) (by show -2147483648 ≤ 1 ∧ 1 ≤ 2147483647; omega)) cl_Mo_108 e_q_sheet_10 rfl rfl rfl ⟨by decide, by decide⟩ ?_
    rintro v7 A8 ⟨z11, rfl, rfl, raw_hz_n10⟩
    show JM g D ad w0 A 13 [(0, vr 0 0), (1, vi s), (2, vi t), (3, vi n)] [vi z11]
    have hz_n10 : z11 = 1 ∧ (-1) ≤ t ∧ t ≤ 1 ∨ z11 = 0 ∧ ¬ ((-1) ≤ t ∧ t ≤ 1) := raw_hz_n10
    clear raw_hz_n10
    rcases hz_n10 with ⟨e_n10, hz_n10⟩ | ⟨e_n10, hz_n10⟩
    · subst e_n10
      refine m_if_eq (tgt := 26) C e_q_sheet_13 (by decide) (by decide) (fun c12 => (by omega : False).elim) (fun c12 => ?_)
      refine m_blk 17 [(0, vr 0 0), (1, vi s), (2, vi t), (3, vi n)] [vi t] C f_q_sheet_16_1 rfl ?_
      refine m_if_lt (tgt := 29) C e_q_sheet_17 (by decide) (by omega) (fun c13 => ?_) (fun c13 => ?_)
      · refine m_blk 30 [(0, vr 0 0), (1, vi s), (2, vi t), (3, vi n)] [vi t] C f_q_sheet_29_1 rfl ?_
        refine m_if_lt (tgt := 40) C e_q_sheet_30 (by decide) (by omega) (fun c14 => ?_) (fun c14 => ?_)
        · refine m_blk 41 [(0, vr 0 0), (1, vi s), (2, vi t), (3, vi n)] [vr 0 0] C f_q_sheet_40_1 rfl ?_
          refine m_getr C e_q_sheet_41 fg_Mo_92 rfl (by decide) rfl ?_
          refine m_blk 46 [(0, vr 0 0), (1, vi s), (2, vi t), (3, vi n)] [vi t, vi s, vr 11 0] C f_q_sheet_44_2 rfl ?_
          refine m_iast C e_q_sheet_46 rfl (by decide) (by decide) (by omega) (by show s < ((4 : Nat) : Int); omega) ?_
          have t15 : mTy (mu A 11 0 s.toNat t) := hT.mu (by show (-1) ≤ t ∧ t ≤ 1; omega)
          have q16 := hE0.mu (f := 11) (k := 0) (j := s.toNat) (z := t) (by simp [sm])
          refine m_blk 48 [(0, vr 0 0), (1, vi s), (2, vi t), (3, vi n)] [vr 0 0] C f_q_sheet_47_1 rfl ?_
          refine m_getr C e_q_sheet_48 fg_Mo_95 rfl (by decide) rfl ?_
          refine m_blk 53 [(0, vr 0 0), (1, vi s), (2, vi t), (3, vi n)] [vi t, vi s, vr 12 0] C f_q_sheet_51_2 rfl ?_
          refine m_if_ge (tgt := 60) C e_q_sheet_53 (by decide) (by omega) (fun c17 => ?_) (fun c17 => ?_)
          · refine m_blk 61 [(0, vr 0 0), (1, vi s), (2, vi t), (3, vi n)] [vi n, vi s, vr 12 0] C f_q_sheet_60_1 rfl ?_
            refine m_iast C e_q_sheet_61 rfl (by decide) (by decide) (by omega) (by show s < ((4 : Nat) : Int); omega) ?_
            have t18 : mTy (mu (mu A 11 0 s.toNat t) 12 0 s.toNat n) := t15.mu (by show 0 ≤ n ∧ n ≤ 40; omega)
            have q19 := q16.mu (f := 12) (k := 0) (j := s.toNat) (z := n) (by simp [sm])
            refine m_blk 65 [(4, vi 0), (0, vr 0 0), (1, vi s), (2, vi t), (3, vi n)] [] C f_q_sheet_62_2 rfl ?_
            have hd_65 : ∀ (NZ : Nat) (A2 : mA) (k : Int), mTy A2 → mEq sm A A2 → 0 ≤ k ∧ k ≤ 40 → (80 - k) < (NZ : Int) → JM g D ad w0 A2 65 [(4, vi k), (0, vr 0 0), (1, vi s), (2, vi t), (3, vi n)] [] := by
              intro NZ
              induction NZ with
              | zero => intro A2 k hT2 hE2 hk2 hm65; exact absurd hm65 (by omega)
              | succ NZ ih65 =>
                intro A2 k hT2 hE2 hk2 hm65
                refine m_blk 69 [(4, vi k), (0, vr 0 0), (1, vi s), (2, vi t), (3, vi n)] [vi 40, vi k] C f_q_sheet_65_2 rfl ?_
                refine m_icmp_ge (tgt := 88) C e_q_sheet_69 (by decide) (by omega) (by decide) (fun c20 => ?_) (fun c20 => ?_)
                · refine m_blk 89 [(4, vi k), (0, vr 0 0), (1, vi s), (2, vi t), (3, vi n)] [vi 1] C f_q_sheet_88_1 rfl ?_
                  exact m_iret C Rm E e_q_sheet_89 ⟨1, rfl, hT2, hE2, (by unfold ansheet; first | exact (by omega : False).elim | rw [if_pos (by omega)] | rw [if_neg (by omega), if_pos (by omega)] | rw [if_neg (by omega), if_neg (by omega), if_pos (by omega)] | rw [if_neg (by omega), if_neg (by omega), if_neg (by omega), if_pos (by omega)] | rw [if_neg (by omega), if_neg (by omega), if_neg (by omega), if_neg (by omega)]), (hI.smk hE2)⟩
                · refine m_blk 73 [(4, vi k), (0, vr 0 0), (1, vi s), (2, vi t), (3, vi n)] [vr 0 0] C f_q_sheet_72_1 rfl ?_
                  refine m_getr C e_q_sheet_73 fg_Mo_98 rfl (by decide) rfl ?_
                  refine m_blk 77 [(4, vi k), (0, vr 0 0), (1, vi s), (2, vi t), (3, vi n)] [vi s, vr 29 0] C f_q_sheet_76_1 rfl ?_
                  refine m_aald C s.toNat e_q_sheet_77 rfl rfl rfl (by decide) (by decide) (by omega) (by show s < ((4 : Nat) : Int); omega) (mz _ _) ?_
                  refine m_blk 81 [(4, vi k), (0, vr 0 0), (1, vi s), (2, vi t), (3, vi n)] [vi 0, vi k, vr 49 s.toNat] C f_q_sheet_78_2 rfl ?_
                  refine m_iast C e_q_sheet_81 rfl (by omega) (by decide) (by omega) (by show k < ((40 : Nat) : Int); omega) ?_
                  have t21 : mTy (mu A2 49 s.toNat k.toNat 0) := hT2.mu (by show (-2147483648) ≤ 0 ∧ 0 ≤ 2147483647; omega)
                  have q22 := hE2.mu (f := 49) (k := s.toNat) (j := k.toNat) (z := 0) (by simp [sm])
                  refine m_blk 65 [(4, vi (k + 1)), (0, vr 0 0), (1, vi s), (2, vi t), (3, vi n)] [] C f_q_sheet_82_2 rfl ?_
                  refine m_loc [(4, vi (k + 1)), (0, vr 0 0), (1, vi s), (2, vi t), (3, vi n)] ⟨rfl, rfl, rfl, rfl, rfl, trivial⟩ ?_
                  exact ih65 (mu A2 49 s.toNat k.toNat 0) (k + 1) t21 q22 (by show 0 ≤ (k + 1) ∧ (k + 1) ≤ 40; omega) (by show (80 - (k + 1)) < _; omega)
            refine m_loc [(4, vi 0), (0, vr 0 0), (1, vi s), (2, vi t), (3, vi n)] ⟨rfl, rfl, rfl, rfl, rfl, trivial⟩ ?_
            exact hd_65 (Int.toNat ((80 - 0)) + 1) (mu (mu A 11 0 s.toNat t) 12 0 s.toNat n) 0 t18 q19 (by show 0 ≤ 0 ∧ 0 ≤ 40; omega) (by show (80 - 0) < _; omega)
          · refine m_blk 61 [(0, vr 0 0), (1, vi s), (2, vi t), (3, vi n)] [vi 0, vi s, vr 12 0] C f_q_sheet_56_2 rfl ?_
            refine m_iast C e_q_sheet_61 rfl (by decide) (by decide) (by omega) (by show s < ((4 : Nat) : Int); omega) ?_
            have t23 : mTy (mu (mu A 11 0 s.toNat t) 12 0 s.toNat 0) := t15.mu (by show 0 ≤ 0 ∧ 0 ≤ 40; omega)
            have q24 := q16.mu (f := 12) (k := 0) (j := s.toNat) (z := 0) (by simp [sm])
            refine m_blk 65 [(4, vi 0), (0, vr 0 0), (1, vi s), (2, vi t), (3, vi n)] [] C f_q_sheet_62_2 rfl ?_
            have hd_65 : ∀ (NZ : Nat) (A2 : mA) (k : Int), mTy A2 → mEq sm A A2 → 0 ≤ k ∧ k ≤ 40 → (80 - k) < (NZ : Int) → JM g D ad w0 A2 65 [(4, vi k), (0, vr 0 0), (1, vi s), (2, vi t), (3, vi n)] [] := by
              intro NZ
              induction NZ with
              | zero => intro A2 k hT2 hE2 hk2 hm65; exact absurd hm65 (by omega)
              | succ NZ ih65 =>
                intro A2 k hT2 hE2 hk2 hm65
                refine m_blk 69 [(4, vi k), (0, vr 0 0), (1, vi s), (2, vi t), (3, vi n)] [vi 40, vi k] C f_q_sheet_65_2 rfl ?_
                refine m_icmp_ge (tgt := 88) C e_q_sheet_69 (by decide) (by omega) (by decide) (fun c25 => ?_) (fun c25 => ?_)
                · refine m_blk 89 [(4, vi k), (0, vr 0 0), (1, vi s), (2, vi t), (3, vi n)] [vi 1] C f_q_sheet_88_1 rfl ?_
                  exact m_iret C Rm E e_q_sheet_89 ⟨1, rfl, hT2, hE2, (by unfold ansheet; first | exact (by omega : False).elim | rw [if_pos (by omega)] | rw [if_neg (by omega), if_pos (by omega)] | rw [if_neg (by omega), if_neg (by omega), if_pos (by omega)] | rw [if_neg (by omega), if_neg (by omega), if_neg (by omega), if_pos (by omega)] | rw [if_neg (by omega), if_neg (by omega), if_neg (by omega), if_neg (by omega)]), (hI.smk hE2)⟩
                · refine m_blk 73 [(4, vi k), (0, vr 0 0), (1, vi s), (2, vi t), (3, vi n)] [vr 0 0] C f_q_sheet_72_1 rfl ?_
                  refine m_getr C e_q_sheet_73 fg_Mo_98 rfl (by decide) rfl ?_
                  refine m_blk 77 [(4, vi k), (0, vr 0 0), (1, vi s), (2, vi t), (3, vi n)] [vi s, vr 29 0] C f_q_sheet_76_1 rfl ?_
                  refine m_aald C s.toNat e_q_sheet_77 rfl rfl rfl (by decide) (by decide) (by omega) (by show s < ((4 : Nat) : Int); omega) (mz _ _) ?_
                  refine m_blk 81 [(4, vi k), (0, vr 0 0), (1, vi s), (2, vi t), (3, vi n)] [vi 0, vi k, vr 49 s.toNat] C f_q_sheet_78_2 rfl ?_
                  refine m_iast C e_q_sheet_81 rfl (by omega) (by decide) (by omega) (by show k < ((40 : Nat) : Int); omega) ?_
                  have t26 : mTy (mu A2 49 s.toNat k.toNat 0) := hT2.mu (by show (-2147483648) ≤ 0 ∧ 0 ≤ 2147483647; omega)
                  have q27 := hE2.mu (f := 49) (k := s.toNat) (j := k.toNat) (z := 0) (by simp [sm])
                  refine m_blk 65 [(4, vi (k + 1)), (0, vr 0 0), (1, vi s), (2, vi t), (3, vi n)] [] C f_q_sheet_82_2 rfl ?_
                  refine m_loc [(4, vi (k + 1)), (0, vr 0 0), (1, vi s), (2, vi t), (3, vi n)] ⟨rfl, rfl, rfl, rfl, rfl, trivial⟩ ?_
                  exact ih65 (mu A2 49 s.toNat k.toNat 0) (k + 1) t26 q27 (by show 0 ≤ (k + 1) ∧ (k + 1) ≤ 40; omega) (by show (80 - (k + 1)) < _; omega)
            refine m_loc [(4, vi 0), (0, vr 0 0), (1, vi s), (2, vi t), (3, vi n)] ⟨rfl, rfl, rfl, rfl, rfl, trivial⟩ ?_
            exact hd_65 (Int.toNat ((80 - 0)) + 1) (mu (mu A 11 0 s.toNat t) 12 0 s.toNat 0) 0 t23 q24 (by show 0 ≤ 0 ∧ 0 ≤ 40; omega) (by show (80 - 0) < _; omega)
        · refine m_blk 34 [(0, vr 0 0), (1, vi s), (2, vi t), (3, vi n)] [vi n] C f_q_sheet_33_1 rfl ?_
          refine m_if_ge (tgt := 40) C e_q_sheet_34 (by decide) (by omega) (fun c28 => ?_) (fun c28 => ?_)
          · refine m_blk 41 [(0, vr 0 0), (1, vi s), (2, vi t), (3, vi n)] [vr 0 0] C f_q_sheet_40_1 rfl ?_
            refine m_getr C e_q_sheet_41 fg_Mo_92 rfl (by decide) rfl ?_
            refine m_blk 46 [(0, vr 0 0), (1, vi s), (2, vi t), (3, vi n)] [vi t, vi s, vr 11 0] C f_q_sheet_44_2 rfl ?_
            refine m_iast C e_q_sheet_46 rfl (by decide) (by decide) (by omega) (by show s < ((4 : Nat) : Int); omega) ?_
            have t29 : mTy (mu A 11 0 s.toNat t) := hT.mu (by show (-1) ≤ t ∧ t ≤ 1; omega)
            have q30 := hE0.mu (f := 11) (k := 0) (j := s.toNat) (z := t) (by simp [sm])
            refine m_blk 48 [(0, vr 0 0), (1, vi s), (2, vi t), (3, vi n)] [vr 0 0] C f_q_sheet_47_1 rfl ?_
            refine m_getr C e_q_sheet_48 fg_Mo_95 rfl (by decide) rfl ?_
            refine m_blk 53 [(0, vr 0 0), (1, vi s), (2, vi t), (3, vi n)] [vi t, vi s, vr 12 0] C f_q_sheet_51_2 rfl ?_
            refine m_if_ge (tgt := 60) C e_q_sheet_53 (by decide) (by omega) (fun c31 => ?_) (fun c31 => ?_)
            · refine m_blk 61 [(0, vr 0 0), (1, vi s), (2, vi t), (3, vi n)] [vi n, vi s, vr 12 0] C f_q_sheet_60_1 rfl ?_
              refine m_iast C e_q_sheet_61 rfl (by decide) (by decide) (by omega) (by show s < ((4 : Nat) : Int); omega) ?_
              have t32 : mTy (mu (mu A 11 0 s.toNat t) 12 0 s.toNat n) := t29.mu (by show 0 ≤ n ∧ n ≤ 40; omega)
              have q33 := q30.mu (f := 12) (k := 0) (j := s.toNat) (z := n) (by simp [sm])
              refine m_blk 65 [(4, vi 0), (0, vr 0 0), (1, vi s), (2, vi t), (3, vi n)] [] C f_q_sheet_62_2 rfl ?_
              have hd_65 : ∀ (NZ : Nat) (A2 : mA) (k : Int), mTy A2 → mEq sm A A2 → 0 ≤ k ∧ k ≤ 40 → (80 - k) < (NZ : Int) → JM g D ad w0 A2 65 [(4, vi k), (0, vr 0 0), (1, vi s), (2, vi t), (3, vi n)] [] := by
                intro NZ
                induction NZ with
                | zero => intro A2 k hT2 hE2 hk2 hm65; exact absurd hm65 (by omega)
                | succ NZ ih65 =>
                  intro A2 k hT2 hE2 hk2 hm65
                  refine m_blk 69 [(4, vi k), (0, vr 0 0), (1, vi s), (2, vi t), (3, vi n)] [vi 40, vi k] C f_q_sheet_65_2 rfl ?_
                  refine m_icmp_ge (tgt := 88) C e_q_sheet_69 (by decide) (by omega) (by decide) (fun c34 => ?_) (fun c34 => ?_)
                  · refine m_blk 89 [(4, vi k), (0, vr 0 0), (1, vi s), (2, vi t), (3, vi n)] [vi 1] C f_q_sheet_88_1 rfl ?_
                    exact m_iret C Rm E e_q_sheet_89 ⟨1, rfl, hT2, hE2, (by unfold ansheet; first | exact (by omega : False).elim | rw [if_pos (by omega)] | rw [if_neg (by omega), if_pos (by omega)] | rw [if_neg (by omega), if_neg (by omega), if_pos (by omega)] | rw [if_neg (by omega), if_neg (by omega), if_neg (by omega), if_pos (by omega)] | rw [if_neg (by omega), if_neg (by omega), if_neg (by omega), if_neg (by omega)]), (hI.smk hE2)⟩
                  · refine m_blk 73 [(4, vi k), (0, vr 0 0), (1, vi s), (2, vi t), (3, vi n)] [vr 0 0] C f_q_sheet_72_1 rfl ?_
                    refine m_getr C e_q_sheet_73 fg_Mo_98 rfl (by decide) rfl ?_
                    refine m_blk 77 [(4, vi k), (0, vr 0 0), (1, vi s), (2, vi t), (3, vi n)] [vi s, vr 29 0] C f_q_sheet_76_1 rfl ?_
                    refine m_aald C s.toNat e_q_sheet_77 rfl rfl rfl (by decide) (by decide) (by omega) (by show s < ((4 : Nat) : Int); omega) (mz _ _) ?_
                    refine m_blk 81 [(4, vi k), (0, vr 0 0), (1, vi s), (2, vi t), (3, vi n)] [vi 0, vi k, vr 49 s.toNat] C f_q_sheet_78_2 rfl ?_
                    refine m_iast C e_q_sheet_81 rfl (by omega) (by decide) (by omega) (by show k < ((40 : Nat) : Int); omega) ?_
                    have t35 : mTy (mu A2 49 s.toNat k.toNat 0) := hT2.mu (by show (-2147483648) ≤ 0 ∧ 0 ≤ 2147483647; omega)
                    have q36 := hE2.mu (f := 49) (k := s.toNat) (j := k.toNat) (z := 0) (by simp [sm])
                    refine m_blk 65 [(4, vi (k + 1)), (0, vr 0 0), (1, vi s), (2, vi t), (3, vi n)] [] C f_q_sheet_82_2 rfl ?_
                    refine m_loc [(4, vi (k + 1)), (0, vr 0 0), (1, vi s), (2, vi t), (3, vi n)] ⟨rfl, rfl, rfl, rfl, rfl, trivial⟩ ?_
                    exact ih65 (mu A2 49 s.toNat k.toNat 0) (k + 1) t35 q36 (by show 0 ≤ (k + 1) ∧ (k + 1) ≤ 40; omega) (by show (80 - (k + 1)) < _; omega)
              refine m_loc [(4, vi 0), (0, vr 0 0), (1, vi s), (2, vi t), (3, vi n)] ⟨rfl, rfl, rfl, rfl, rfl, trivial⟩ ?_
              exact hd_65 (Int.toNat ((80 - 0)) + 1) (mu (mu A 11 0 s.toNat t) 12 0 s.toNat n) 0 t32 q33 (by show 0 ≤ 0 ∧ 0 ≤ 40; omega) (by show (80 - 0) < _; omega)
            · refine m_blk 61 [(0, vr 0 0), (1, vi s), (2, vi t), (3, vi n)] [vi 0, vi s, vr 12 0] C f_q_sheet_56_2 rfl ?_
              refine m_iast C e_q_sheet_61 rfl (by decide) (by decide) (by omega) (by show s < ((4 : Nat) : Int); omega) ?_
              have t37 : mTy (mu (mu A 11 0 s.toNat t) 12 0 s.toNat 0) := t29.mu (by show 0 ≤ 0 ∧ 0 ≤ 40; omega)
              have q38 := q30.mu (f := 12) (k := 0) (j := s.toNat) (z := 0) (by simp [sm])
              refine m_blk 65 [(4, vi 0), (0, vr 0 0), (1, vi s), (2, vi t), (3, vi n)] [] C f_q_sheet_62_2 rfl ?_
              have hd_65 : ∀ (NZ : Nat) (A2 : mA) (k : Int), mTy A2 → mEq sm A A2 → 0 ≤ k ∧ k ≤ 40 → (80 - k) < (NZ : Int) → JM g D ad w0 A2 65 [(4, vi k), (0, vr 0 0), (1, vi s), (2, vi t), (3, vi n)] [] := by
                intro NZ
                induction NZ with
                | zero => intro A2 k hT2 hE2 hk2 hm65; exact absurd hm65 (by omega)
                | succ NZ ih65 =>
                  intro A2 k hT2 hE2 hk2 hm65
                  refine m_blk 69 [(4, vi k), (0, vr 0 0), (1, vi s), (2, vi t), (3, vi n)] [vi 40, vi k] C f_q_sheet_65_2 rfl ?_
                  refine m_icmp_ge (tgt := 88) C e_q_sheet_69 (by decide) (by omega) (by decide) (fun c39 => ?_) (fun c39 => ?_)
                  · refine m_blk 89 [(4, vi k), (0, vr 0 0), (1, vi s), (2, vi t), (3, vi n)] [vi 1] C f_q_sheet_88_1 rfl ?_
                    exact m_iret C Rm E e_q_sheet_89 ⟨1, rfl, hT2, hE2, (by unfold ansheet; first | exact (by omega : False).elim | rw [if_pos (by omega)] | rw [if_neg (by omega), if_pos (by omega)] | rw [if_neg (by omega), if_neg (by omega), if_pos (by omega)] | rw [if_neg (by omega), if_neg (by omega), if_neg (by omega), if_pos (by omega)] | rw [if_neg (by omega), if_neg (by omega), if_neg (by omega), if_neg (by omega)]), (hI.smk hE2)⟩
                  · refine m_blk 73 [(4, vi k), (0, vr 0 0), (1, vi s), (2, vi t), (3, vi n)] [vr 0 0] C f_q_sheet_72_1 rfl ?_
                    refine m_getr C e_q_sheet_73 fg_Mo_98 rfl (by decide) rfl ?_
                    refine m_blk 77 [(4, vi k), (0, vr 0 0), (1, vi s), (2, vi t), (3, vi n)] [vi s, vr 29 0] C f_q_sheet_76_1 rfl ?_
                    refine m_aald C s.toNat e_q_sheet_77 rfl rfl rfl (by decide) (by decide) (by omega) (by show s < ((4 : Nat) : Int); omega) (mz _ _) ?_
                    refine m_blk 81 [(4, vi k), (0, vr 0 0), (1, vi s), (2, vi t), (3, vi n)] [vi 0, vi k, vr 49 s.toNat] C f_q_sheet_78_2 rfl ?_
                    refine m_iast C e_q_sheet_81 rfl (by omega) (by decide) (by omega) (by show k < ((40 : Nat) : Int); omega) ?_
                    have t40 : mTy (mu A2 49 s.toNat k.toNat 0) := hT2.mu (by show (-2147483648) ≤ 0 ∧ 0 ≤ 2147483647; omega)
                    have q41 := hE2.mu (f := 49) (k := s.toNat) (j := k.toNat) (z := 0) (by simp [sm])
                    refine m_blk 65 [(4, vi (k + 1)), (0, vr 0 0), (1, vi s), (2, vi t), (3, vi n)] [] C f_q_sheet_82_2 rfl ?_
                    refine m_loc [(4, vi (k + 1)), (0, vr 0 0), (1, vi s), (2, vi t), (3, vi n)] ⟨rfl, rfl, rfl, rfl, rfl, trivial⟩ ?_
                    exact ih65 (mu A2 49 s.toNat k.toNat 0) (k + 1) t40 q41 (by show 0 ≤ (k + 1) ∧ (k + 1) ≤ 40; omega) (by show (80 - (k + 1)) < _; omega)
              refine m_loc [(4, vi 0), (0, vr 0 0), (1, vi s), (2, vi t), (3, vi n)] ⟨rfl, rfl, rfl, rfl, rfl, trivial⟩ ?_
              exact hd_65 (Int.toNat ((80 - 0)) + 1) (mu (mu A 11 0 s.toNat t) 12 0 s.toNat 0) 0 t37 q38 (by show 0 ≤ 0 ∧ 0 ≤ 40; omega) (by show (80 - 0) < _; omega)
          · refine m_blk 39 [(0, vr 0 0), (1, vi s), (2, vi t), (3, vi n)] [vi (-14)] C f_q_sheet_37_1 rfl ?_
            exact m_iret C Rm E e_q_sheet_39 ⟨(-14), rfl, hT, hE0, (by unfold ansheet; first | exact (by omega : False).elim | rw [if_pos (by omega)] | rw [if_neg (by omega), if_pos (by omega)] | rw [if_neg (by omega), if_neg (by omega), if_pos (by omega)] | rw [if_neg (by omega), if_neg (by omega), if_neg (by omega), if_pos (by omega)] | rw [if_neg (by omega), if_neg (by omega), if_neg (by omega), if_neg (by omega)]), (hI.smk hE0)⟩
      · refine m_blk 23 [(0, vr 0 0), (1, vi s), (2, vi t), (3, vi n)] [vi 40, vi n] C f_q_sheet_20_2 rfl ?_
        refine m_icmp_le (tgt := 29) C e_q_sheet_23 (by decide) (by omega) (by decide) (fun c42 => ?_) (fun c42 => ?_)
        · refine m_blk 30 [(0, vr 0 0), (1, vi s), (2, vi t), (3, vi n)] [vi t] C f_q_sheet_29_1 rfl ?_
          refine m_if_lt (tgt := 40) C e_q_sheet_30 (by decide) (by omega) (fun c43 => ?_) (fun c43 => ?_)
          · refine m_blk 41 [(0, vr 0 0), (1, vi s), (2, vi t), (3, vi n)] [vr 0 0] C f_q_sheet_40_1 rfl ?_
            refine m_getr C e_q_sheet_41 fg_Mo_92 rfl (by decide) rfl ?_
            refine m_blk 46 [(0, vr 0 0), (1, vi s), (2, vi t), (3, vi n)] [vi t, vi s, vr 11 0] C f_q_sheet_44_2 rfl ?_
            refine m_iast C e_q_sheet_46 rfl (by decide) (by decide) (by omega) (by show s < ((4 : Nat) : Int); omega) ?_
            have t44 : mTy (mu A 11 0 s.toNat t) := hT.mu (by show (-1) ≤ t ∧ t ≤ 1; omega)
            have q45 := hE0.mu (f := 11) (k := 0) (j := s.toNat) (z := t) (by simp [sm])
            refine m_blk 48 [(0, vr 0 0), (1, vi s), (2, vi t), (3, vi n)] [vr 0 0] C f_q_sheet_47_1 rfl ?_
            refine m_getr C e_q_sheet_48 fg_Mo_95 rfl (by decide) rfl ?_
            refine m_blk 53 [(0, vr 0 0), (1, vi s), (2, vi t), (3, vi n)] [vi t, vi s, vr 12 0] C f_q_sheet_51_2 rfl ?_
            refine m_if_ge (tgt := 60) C e_q_sheet_53 (by decide) (by omega) (fun c46 => ?_) (fun c46 => ?_)
            · refine m_blk 61 [(0, vr 0 0), (1, vi s), (2, vi t), (3, vi n)] [vi n, vi s, vr 12 0] C f_q_sheet_60_1 rfl ?_
              refine m_iast C e_q_sheet_61 rfl (by decide) (by decide) (by omega) (by show s < ((4 : Nat) : Int); omega) ?_
              have t47 : mTy (mu (mu A 11 0 s.toNat t) 12 0 s.toNat n) := t44.mu (by show 0 ≤ n ∧ n ≤ 40; omega)
              have q48 := q45.mu (f := 12) (k := 0) (j := s.toNat) (z := n) (by simp [sm])
              refine m_blk 65 [(4, vi 0), (0, vr 0 0), (1, vi s), (2, vi t), (3, vi n)] [] C f_q_sheet_62_2 rfl ?_
              have hd_65 : ∀ (NZ : Nat) (A2 : mA) (k : Int), mTy A2 → mEq sm A A2 → 0 ≤ k ∧ k ≤ 40 → (80 - k) < (NZ : Int) → JM g D ad w0 A2 65 [(4, vi k), (0, vr 0 0), (1, vi s), (2, vi t), (3, vi n)] [] := by
                intro NZ
                induction NZ with
                | zero => intro A2 k hT2 hE2 hk2 hm65; exact absurd hm65 (by omega)
                | succ NZ ih65 =>
                  intro A2 k hT2 hE2 hk2 hm65
                  refine m_blk 69 [(4, vi k), (0, vr 0 0), (1, vi s), (2, vi t), (3, vi n)] [vi 40, vi k] C f_q_sheet_65_2 rfl ?_
                  refine m_icmp_ge (tgt := 88) C e_q_sheet_69 (by decide) (by omega) (by decide) (fun c49 => ?_) (fun c49 => ?_)
                  · refine m_blk 89 [(4, vi k), (0, vr 0 0), (1, vi s), (2, vi t), (3, vi n)] [vi 1] C f_q_sheet_88_1 rfl ?_
                    exact m_iret C Rm E e_q_sheet_89 ⟨1, rfl, hT2, hE2, (by unfold ansheet; first | exact (by omega : False).elim | rw [if_pos (by omega)] | rw [if_neg (by omega), if_pos (by omega)] | rw [if_neg (by omega), if_neg (by omega), if_pos (by omega)] | rw [if_neg (by omega), if_neg (by omega), if_neg (by omega), if_pos (by omega)] | rw [if_neg (by omega), if_neg (by omega), if_neg (by omega), if_neg (by omega)]), (hI.smk hE2)⟩
                  · refine m_blk 73 [(4, vi k), (0, vr 0 0), (1, vi s), (2, vi t), (3, vi n)] [vr 0 0] C f_q_sheet_72_1 rfl ?_
                    refine m_getr C e_q_sheet_73 fg_Mo_98 rfl (by decide) rfl ?_
                    refine m_blk 77 [(4, vi k), (0, vr 0 0), (1, vi s), (2, vi t), (3, vi n)] [vi s, vr 29 0] C f_q_sheet_76_1 rfl ?_
                    refine m_aald C s.toNat e_q_sheet_77 rfl rfl rfl (by decide) (by decide) (by omega) (by show s < ((4 : Nat) : Int); omega) (mz _ _) ?_
                    refine m_blk 81 [(4, vi k), (0, vr 0 0), (1, vi s), (2, vi t), (3, vi n)] [vi 0, vi k, vr 49 s.toNat] C f_q_sheet_78_2 rfl ?_
                    refine m_iast C e_q_sheet_81 rfl (by omega) (by decide) (by omega) (by show k < ((40 : Nat) : Int); omega) ?_
                    have t50 : mTy (mu A2 49 s.toNat k.toNat 0) := hT2.mu (by show (-2147483648) ≤ 0 ∧ 0 ≤ 2147483647; omega)
                    have q51 := hE2.mu (f := 49) (k := s.toNat) (j := k.toNat) (z := 0) (by simp [sm])
                    refine m_blk 65 [(4, vi (k + 1)), (0, vr 0 0), (1, vi s), (2, vi t), (3, vi n)] [] C f_q_sheet_82_2 rfl ?_
                    refine m_loc [(4, vi (k + 1)), (0, vr 0 0), (1, vi s), (2, vi t), (3, vi n)] ⟨rfl, rfl, rfl, rfl, rfl, trivial⟩ ?_
                    exact ih65 (mu A2 49 s.toNat k.toNat 0) (k + 1) t50 q51 (by show 0 ≤ (k + 1) ∧ (k + 1) ≤ 40; omega) (by show (80 - (k + 1)) < _; omega)
              refine m_loc [(4, vi 0), (0, vr 0 0), (1, vi s), (2, vi t), (3, vi n)] ⟨rfl, rfl, rfl, rfl, rfl, trivial⟩ ?_
              exact hd_65 (Int.toNat ((80 - 0)) + 1) (mu (mu A 11 0 s.toNat t) 12 0 s.toNat n) 0 t47 q48 (by show 0 ≤ 0 ∧ 0 ≤ 40; omega) (by show (80 - 0) < _; omega)
            · refine m_blk 61 [(0, vr 0 0), (1, vi s), (2, vi t), (3, vi n)] [vi 0, vi s, vr 12 0] C f_q_sheet_56_2 rfl ?_
              refine m_iast C e_q_sheet_61 rfl (by decide) (by decide) (by omega) (by show s < ((4 : Nat) : Int); omega) ?_
              have t52 : mTy (mu (mu A 11 0 s.toNat t) 12 0 s.toNat 0) := t44.mu (by show 0 ≤ 0 ∧ 0 ≤ 40; omega)
              have q53 := q45.mu (f := 12) (k := 0) (j := s.toNat) (z := 0) (by simp [sm])
              refine m_blk 65 [(4, vi 0), (0, vr 0 0), (1, vi s), (2, vi t), (3, vi n)] [] C f_q_sheet_62_2 rfl ?_
              have hd_65 : ∀ (NZ : Nat) (A2 : mA) (k : Int), mTy A2 → mEq sm A A2 → 0 ≤ k ∧ k ≤ 40 → (80 - k) < (NZ : Int) → JM g D ad w0 A2 65 [(4, vi k), (0, vr 0 0), (1, vi s), (2, vi t), (3, vi n)] [] := by
                intro NZ
                induction NZ with
                | zero => intro A2 k hT2 hE2 hk2 hm65; exact absurd hm65 (by omega)
                | succ NZ ih65 =>
                  intro A2 k hT2 hE2 hk2 hm65
                  refine m_blk 69 [(4, vi k), (0, vr 0 0), (1, vi s), (2, vi t), (3, vi n)] [vi 40, vi k] C f_q_sheet_65_2 rfl ?_
                  refine m_icmp_ge (tgt := 88) C e_q_sheet_69 (by decide) (by omega) (by decide) (fun c54 => ?_) (fun c54 => ?_)
                  · refine m_blk 89 [(4, vi k), (0, vr 0 0), (1, vi s), (2, vi t), (3, vi n)] [vi 1] C f_q_sheet_88_1 rfl ?_
                    exact m_iret C Rm E e_q_sheet_89 ⟨1, rfl, hT2, hE2, (by unfold ansheet; first | exact (by omega : False).elim | rw [if_pos (by omega)] | rw [if_neg (by omega), if_pos (by omega)] | rw [if_neg (by omega), if_neg (by omega), if_pos (by omega)] | rw [if_neg (by omega), if_neg (by omega), if_neg (by omega), if_pos (by omega)] | rw [if_neg (by omega), if_neg (by omega), if_neg (by omega), if_neg (by omega)]), (hI.smk hE2)⟩
                  · refine m_blk 73 [(4, vi k), (0, vr 0 0), (1, vi s), (2, vi t), (3, vi n)] [vr 0 0] C f_q_sheet_72_1 rfl ?_
                    refine m_getr C e_q_sheet_73 fg_Mo_98 rfl (by decide) rfl ?_
                    refine m_blk 77 [(4, vi k), (0, vr 0 0), (1, vi s), (2, vi t), (3, vi n)] [vi s, vr 29 0] C f_q_sheet_76_1 rfl ?_
                    refine m_aald C s.toNat e_q_sheet_77 rfl rfl rfl (by decide) (by decide) (by omega) (by show s < ((4 : Nat) : Int); omega) (mz _ _) ?_
                    refine m_blk 81 [(4, vi k), (0, vr 0 0), (1, vi s), (2, vi t), (3, vi n)] [vi 0, vi k, vr 49 s.toNat] C f_q_sheet_78_2 rfl ?_
                    refine m_iast C e_q_sheet_81 rfl (by omega) (by decide) (by omega) (by show k < ((40 : Nat) : Int); omega) ?_
                    have t55 : mTy (mu A2 49 s.toNat k.toNat 0) := hT2.mu (by show (-2147483648) ≤ 0 ∧ 0 ≤ 2147483647; omega)
                    have q56 := hE2.mu (f := 49) (k := s.toNat) (j := k.toNat) (z := 0) (by simp [sm])
                    refine m_blk 65 [(4, vi (k + 1)), (0, vr 0 0), (1, vi s), (2, vi t), (3, vi n)] [] C f_q_sheet_82_2 rfl ?_
                    refine m_loc [(4, vi (k + 1)), (0, vr 0 0), (1, vi s), (2, vi t), (3, vi n)] ⟨rfl, rfl, rfl, rfl, rfl, trivial⟩ ?_
                    exact ih65 (mu A2 49 s.toNat k.toNat 0) (k + 1) t55 q56 (by show 0 ≤ (k + 1) ∧ (k + 1) ≤ 40; omega) (by show (80 - (k + 1)) < _; omega)
              refine m_loc [(4, vi 0), (0, vr 0 0), (1, vi s), (2, vi t), (3, vi n)] ⟨rfl, rfl, rfl, rfl, rfl, trivial⟩ ?_
              exact hd_65 (Int.toNat ((80 - 0)) + 1) (mu (mu A 11 0 s.toNat t) 12 0 s.toNat 0) 0 t52 q53 (by show 0 ≤ 0 ∧ 0 ≤ 40; omega) (by show (80 - 0) < _; omega)
          · refine m_blk 34 [(0, vr 0 0), (1, vi s), (2, vi t), (3, vi n)] [vi n] C f_q_sheet_33_1 rfl ?_
            refine m_if_ge (tgt := 40) C e_q_sheet_34 (by decide) (by omega) (fun c57 => ?_) (fun c57 => ?_)
            · refine m_blk 41 [(0, vr 0 0), (1, vi s), (2, vi t), (3, vi n)] [vr 0 0] C f_q_sheet_40_1 rfl ?_
              refine m_getr C e_q_sheet_41 fg_Mo_92 rfl (by decide) rfl ?_
              refine m_blk 46 [(0, vr 0 0), (1, vi s), (2, vi t), (3, vi n)] [vi t, vi s, vr 11 0] C f_q_sheet_44_2 rfl ?_
              refine m_iast C e_q_sheet_46 rfl (by decide) (by decide) (by omega) (by show s < ((4 : Nat) : Int); omega) ?_
              have t58 : mTy (mu A 11 0 s.toNat t) := hT.mu (by show (-1) ≤ t ∧ t ≤ 1; omega)
              have q59 := hE0.mu (f := 11) (k := 0) (j := s.toNat) (z := t) (by simp [sm])
              refine m_blk 48 [(0, vr 0 0), (1, vi s), (2, vi t), (3, vi n)] [vr 0 0] C f_q_sheet_47_1 rfl ?_
              refine m_getr C e_q_sheet_48 fg_Mo_95 rfl (by decide) rfl ?_
              refine m_blk 53 [(0, vr 0 0), (1, vi s), (2, vi t), (3, vi n)] [vi t, vi s, vr 12 0] C f_q_sheet_51_2 rfl ?_
              refine m_if_ge (tgt := 60) C e_q_sheet_53 (by decide) (by omega) (fun c60 => ?_) (fun c60 => ?_)
              · refine m_blk 61 [(0, vr 0 0), (1, vi s), (2, vi t), (3, vi n)] [vi n, vi s, vr 12 0] C f_q_sheet_60_1 rfl ?_
                refine m_iast C e_q_sheet_61 rfl (by decide) (by decide) (by omega) (by show s < ((4 : Nat) : Int); omega) ?_
                have t61 : mTy (mu (mu A 11 0 s.toNat t) 12 0 s.toNat n) := t58.mu (by show 0 ≤ n ∧ n ≤ 40; omega)
                have q62 := q59.mu (f := 12) (k := 0) (j := s.toNat) (z := n) (by simp [sm])
                refine m_blk 65 [(4, vi 0), (0, vr 0 0), (1, vi s), (2, vi t), (3, vi n)] [] C f_q_sheet_62_2 rfl ?_
                have hd_65 : ∀ (NZ : Nat) (A2 : mA) (k : Int), mTy A2 → mEq sm A A2 → 0 ≤ k ∧ k ≤ 40 → (80 - k) < (NZ : Int) → JM g D ad w0 A2 65 [(4, vi k), (0, vr 0 0), (1, vi s), (2, vi t), (3, vi n)] [] := by
                  intro NZ
                  induction NZ with
                  | zero => intro A2 k hT2 hE2 hk2 hm65; exact absurd hm65 (by omega)
                  | succ NZ ih65 =>
                    intro A2 k hT2 hE2 hk2 hm65
                    refine m_blk 69 [(4, vi k), (0, vr 0 0), (1, vi s), (2, vi t), (3, vi n)] [vi 40, vi k] C f_q_sheet_65_2 rfl ?_
                    refine m_icmp_ge (tgt := 88) C e_q_sheet_69 (by decide) (by omega) (by decide) (fun c63 => ?_) (fun c63 => ?_)
                    · refine m_blk 89 [(4, vi k), (0, vr 0 0), (1, vi s), (2, vi t), (3, vi n)] [vi 1] C f_q_sheet_88_1 rfl ?_
                      exact m_iret C Rm E e_q_sheet_89 ⟨1, rfl, hT2, hE2, (by unfold ansheet; first | exact (by omega : False).elim | rw [if_pos (by omega)] | rw [if_neg (by omega), if_pos (by omega)] | rw [if_neg (by omega), if_neg (by omega), if_pos (by omega)] | rw [if_neg (by omega), if_neg (by omega), if_neg (by omega), if_pos (by omega)] | rw [if_neg (by omega), if_neg (by omega), if_neg (by omega), if_neg (by omega)]), (hI.smk hE2)⟩
                    · refine m_blk 73 [(4, vi k), (0, vr 0 0), (1, vi s), (2, vi t), (3, vi n)] [vr 0 0] C f_q_sheet_72_1 rfl ?_
                      refine m_getr C e_q_sheet_73 fg_Mo_98 rfl (by decide) rfl ?_
                      refine m_blk 77 [(4, vi k), (0, vr 0 0), (1, vi s), (2, vi t), (3, vi n)] [vi s, vr 29 0] C f_q_sheet_76_1 rfl ?_
                      refine m_aald C s.toNat e_q_sheet_77 rfl rfl rfl (by decide) (by decide) (by omega) (by show s < ((4 : Nat) : Int); omega) (mz _ _) ?_
                      refine m_blk 81 [(4, vi k), (0, vr 0 0), (1, vi s), (2, vi t), (3, vi n)] [vi 0, vi k, vr 49 s.toNat] C f_q_sheet_78_2 rfl ?_
                      refine m_iast C e_q_sheet_81 rfl (by omega) (by decide) (by omega) (by show k < ((40 : Nat) : Int); omega) ?_
                      have t64 : mTy (mu A2 49 s.toNat k.toNat 0) := hT2.mu (by show (-2147483648) ≤ 0 ∧ 0 ≤ 2147483647; omega)
                      have q65 := hE2.mu (f := 49) (k := s.toNat) (j := k.toNat) (z := 0) (by simp [sm])
                      refine m_blk 65 [(4, vi (k + 1)), (0, vr 0 0), (1, vi s), (2, vi t), (3, vi n)] [] C f_q_sheet_82_2 rfl ?_
                      refine m_loc [(4, vi (k + 1)), (0, vr 0 0), (1, vi s), (2, vi t), (3, vi n)] ⟨rfl, rfl, rfl, rfl, rfl, trivial⟩ ?_
                      exact ih65 (mu A2 49 s.toNat k.toNat 0) (k + 1) t64 q65 (by show 0 ≤ (k + 1) ∧ (k + 1) ≤ 40; omega) (by show (80 - (k + 1)) < _; omega)
                refine m_loc [(4, vi 0), (0, vr 0 0), (1, vi s), (2, vi t), (3, vi n)] ⟨rfl, rfl, rfl, rfl, rfl, trivial⟩ ?_
                exact hd_65 (Int.toNat ((80 - 0)) + 1) (mu (mu A 11 0 s.toNat t) 12 0 s.toNat n) 0 t61 q62 (by show 0 ≤ 0 ∧ 0 ≤ 40; omega) (by show (80 - 0) < _; omega)
              · refine m_blk 61 [(0, vr 0 0), (1, vi s), (2, vi t), (3, vi n)] [vi 0, vi s, vr 12 0] C f_q_sheet_56_2 rfl ?_
                refine m_iast C e_q_sheet_61 rfl (by decide) (by decide) (by omega) (by show s < ((4 : Nat) : Int); omega) ?_
                have t66 : mTy (mu (mu A 11 0 s.toNat t) 12 0 s.toNat 0) := t58.mu (by show 0 ≤ 0 ∧ 0 ≤ 40; omega)
                have q67 := q59.mu (f := 12) (k := 0) (j := s.toNat) (z := 0) (by simp [sm])
                refine m_blk 65 [(4, vi 0), (0, vr 0 0), (1, vi s), (2, vi t), (3, vi n)] [] C f_q_sheet_62_2 rfl ?_
                have hd_65 : ∀ (NZ : Nat) (A2 : mA) (k : Int), mTy A2 → mEq sm A A2 → 0 ≤ k ∧ k ≤ 40 → (80 - k) < (NZ : Int) → JM g D ad w0 A2 65 [(4, vi k), (0, vr 0 0), (1, vi s), (2, vi t), (3, vi n)] [] := by
                  intro NZ
                  induction NZ with
                  | zero => intro A2 k hT2 hE2 hk2 hm65; exact absurd hm65 (by omega)
                  | succ NZ ih65 =>
                    intro A2 k hT2 hE2 hk2 hm65
                    refine m_blk 69 [(4, vi k), (0, vr 0 0), (1, vi s), (2, vi t), (3, vi n)] [vi 40, vi k] C f_q_sheet_65_2 rfl ?_
                    refine m_icmp_ge (tgt := 88) C e_q_sheet_69 (by decide) (by omega) (by decide) (fun c68 => ?_) (fun c68 => ?_)
                    · refine m_blk 89 [(4, vi k), (0, vr 0 0), (1, vi s), (2, vi t), (3, vi n)] [vi 1] C f_q_sheet_88_1 rfl ?_
                      exact m_iret C Rm E e_q_sheet_89 ⟨1, rfl, hT2, hE2, (by unfold ansheet; first | exact (by omega : False).elim | rw [if_pos (by omega)] | rw [if_neg (by omega), if_pos (by omega)] | rw [if_neg (by omega), if_neg (by omega), if_pos (by omega)] | rw [if_neg (by omega), if_neg (by omega), if_neg (by omega), if_pos (by omega)] | rw [if_neg (by omega), if_neg (by omega), if_neg (by omega), if_neg (by omega)]), (hI.smk hE2)⟩
                    · refine m_blk 73 [(4, vi k), (0, vr 0 0), (1, vi s), (2, vi t), (3, vi n)] [vr 0 0] C f_q_sheet_72_1 rfl ?_
                      refine m_getr C e_q_sheet_73 fg_Mo_98 rfl (by decide) rfl ?_
                      refine m_blk 77 [(4, vi k), (0, vr 0 0), (1, vi s), (2, vi t), (3, vi n)] [vi s, vr 29 0] C f_q_sheet_76_1 rfl ?_
                      refine m_aald C s.toNat e_q_sheet_77 rfl rfl rfl (by decide) (by decide) (by omega) (by show s < ((4 : Nat) : Int); omega) (mz _ _) ?_
                      refine m_blk 81 [(4, vi k), (0, vr 0 0), (1, vi s), (2, vi t), (3, vi n)] [vi 0, vi k, vr 49 s.toNat] C f_q_sheet_78_2 rfl ?_
                      refine m_iast C e_q_sheet_81 rfl (by omega) (by decide) (by omega) (by show k < ((40 : Nat) : Int); omega) ?_
                      have t69 : mTy (mu A2 49 s.toNat k.toNat 0) := hT2.mu (by show (-2147483648) ≤ 0 ∧ 0 ≤ 2147483647; omega)
                      have q70 := hE2.mu (f := 49) (k := s.toNat) (j := k.toNat) (z := 0) (by simp [sm])
                      refine m_blk 65 [(4, vi (k + 1)), (0, vr 0 0), (1, vi s), (2, vi t), (3, vi n)] [] C f_q_sheet_82_2 rfl ?_
                      refine m_loc [(4, vi (k + 1)), (0, vr 0 0), (1, vi s), (2, vi t), (3, vi n)] ⟨rfl, rfl, rfl, rfl, rfl, trivial⟩ ?_
                      exact ih65 (mu A2 49 s.toNat k.toNat 0) (k + 1) t69 q70 (by show 0 ≤ (k + 1) ∧ (k + 1) ≤ 40; omega) (by show (80 - (k + 1)) < _; omega)
                refine m_loc [(4, vi 0), (0, vr 0 0), (1, vi s), (2, vi t), (3, vi n)] ⟨rfl, rfl, rfl, rfl, rfl, trivial⟩ ?_
                exact hd_65 (Int.toNat ((80 - 0)) + 1) (mu (mu A 11 0 s.toNat t) 12 0 s.toNat 0) 0 t66 q67 (by show 0 ≤ 0 ∧ 0 ≤ 40; omega) (by show (80 - 0) < _; omega)
            · refine m_blk 39 [(0, vr 0 0), (1, vi s), (2, vi t), (3, vi n)] [vi (-14)] C f_q_sheet_37_1 rfl ?_
              exact m_iret C Rm E e_q_sheet_39 ⟨(-14), rfl, hT, hE0, (by unfold ansheet; first | exact (by omega : False).elim | rw [if_pos (by omega)] | rw [if_neg (by omega), if_pos (by omega)] | rw [if_neg (by omega), if_neg (by omega), if_pos (by omega)] | rw [if_neg (by omega), if_neg (by omega), if_neg (by omega), if_pos (by omega)] | rw [if_neg (by omega), if_neg (by omega), if_neg (by omega), if_neg (by omega)]), (hI.smk hE0)⟩
        · refine m_blk 28 [(0, vr 0 0), (1, vi s), (2, vi t), (3, vi n)] [vi (-2)] C f_q_sheet_26_1 rfl ?_
          exact m_iret C Rm E e_q_sheet_28 ⟨(-2), rfl, hT, hE0, (by unfold ansheet; first | exact (by omega : False).elim | rw [if_pos (by omega)] | rw [if_neg (by omega), if_pos (by omega)] | rw [if_neg (by omega), if_neg (by omega), if_pos (by omega)] | rw [if_neg (by omega), if_neg (by omega), if_neg (by omega), if_pos (by omega)] | rw [if_neg (by omega), if_neg (by omega), if_neg (by omega), if_neg (by omega)]), (hI.smk hE0)⟩
    · subst e_n10
      refine m_if_eq (tgt := 26) C e_q_sheet_13 (by decide) (by decide) (fun c71 => ?_) (fun c71 => (by omega : False).elim)
      refine m_blk 28 [(0, vr 0 0), (1, vi s), (2, vi t), (3, vi n)] [vi (-2)] C f_q_sheet_26_1 rfl ?_
      exact m_iret C Rm E e_q_sheet_28 ⟨(-2), rfl, hT, hE0, (by unfold ansheet; first | exact (by omega : False).elim | rw [if_pos (by omega)] | rw [if_neg (by omega), if_pos (by omega)] | rw [if_neg (by omega), if_neg (by omega), if_pos (by omega)] | rw [if_neg (by omega), if_neg (by omega), if_neg (by omega), if_pos (by omega)] | rw [if_neg (by omega), if_neg (by omega), if_neg (by omega), if_neg (by omega)]), (hI.smk hE0)⟩
  · subst e_n4
    refine m_if_eq (tgt := 26) C e_q_sheet_4 (by decide) (by decide) (fun c72 => ?_) (fun c72 => (by omega : False).elim)
    refine m_blk 28 [(0, vr 0 0), (1, vi s), (2, vi t), (3, vi n)] [vi (-2)] C f_q_sheet_26_1 rfl ?_
    exact m_iret C Rm E e_q_sheet_28 ⟨(-2), rfl, hT, hE0, (by unfold ansheet; first | exact (by omega : False).elim | rw [if_pos (by omega)] | rw [if_neg (by omega), if_pos (by omega)] | rw [if_neg (by omega), if_neg (by omega), if_pos (by omega)] | rw [if_neg (by omega), if_neg (by omega), if_neg (by omega), if_pos (by omega)] | rw [if_neg (by omega), if_neg (by omega), if_neg (by omega), if_neg (by omega)]), (hI.smk hE0)⟩

theorem f_q_cell_0_1 : mblkB b_Mo_cell [(0, .iload_n 1, vi 0)] = true := by decide +kernel
theorem e_q_cell_1 : decode b_Mo_cell 1 = .ok (.invokestatic 422, 3) := by decide +kernel
theorem e_q_cell_4 : decode b_Mo_cell 4 = .ok (.ifCond .ne 6, 3) := by decide +kernel
theorem f_q_cell_10_1 : mblkB b_Mo_cell [(10, .aload_n 0, vi 0)] = true := by decide +kernel
theorem e_q_cell_11 : decode b_Mo_cell 11 = .ok (.getfield 92, 3) := by decide +kernel
theorem f_q_cell_14_1 : mblkB b_Mo_cell [(14, .iload_n 1, vi 0)] = true := by decide +kernel
theorem e_q_cell_15 : decode b_Mo_cell 15 = .ok (.iaload, 1) := by decide +kernel
theorem e_q_cell_16 : decode b_Mo_cell 16 = .ok (.ifCond .ge 6, 3) := by decide +kernel
theorem f_q_cell_22_3 : mblkB b_Mo_cell [(22, .iload_n 2, vi 0), (23, .iconst 0, vi 0), (24, .aload_n 0, vi 0)] = true := by decide +kernel
theorem e_q_cell_25 : decode b_Mo_cell 25 = .ok (.getfield 95, 3) := by decide +kernel
theorem f_q_cell_28_1 : mblkB b_Mo_cell [(28, .iload_n 1, vi 0)] = true := by decide +kernel
theorem e_q_cell_29 : decode b_Mo_cell 29 = .ok (.iaload, 1) := by decide +kernel
theorem f_q_cell_30_2 : mblkB b_Mo_cell [(30, .iconst 1, vi 1), (31, .isub, vi 0)] = true := by decide +kernel
theorem e_q_cell_32 : decode b_Mo_cell 32 = .ok (.invokestatic 108, 3) := by decide +kernel
theorem e_q_cell_35 : decode b_Mo_cell 35 = .ok (.ifCond .ne 6, 3) := by decide +kernel
theorem f_q_cell_41_1 : mblkB b_Mo_cell [(41, .aload_n 0, vi 0)] = true := by decide +kernel
theorem e_q_cell_42 : decode b_Mo_cell 42 = .ok (.getfield 98, 3) := by decide +kernel
theorem f_q_cell_45_1 : mblkB b_Mo_cell [(45, .iload_n 1, vi 0)] = true := by decide +kernel
theorem e_q_cell_46 : decode b_Mo_cell 46 = .ok (.aaload, 1) := by decide +kernel
theorem f_q_cell_47_2 : mblkB b_Mo_cell [(47, .iload_n 2, vi 0), (48, .aload_n 0, vi 0)] = true := by decide +kernel
theorem e_q_cell_49 : decode b_Mo_cell 49 = .ok (.getfield 92, 3) := by decide +kernel
theorem f_q_cell_52_1 : mblkB b_Mo_cell [(52, .iload_n 1, vi 0)] = true := by decide +kernel
theorem e_q_cell_53 : decode b_Mo_cell 53 = .ok (.iaload, 1) := by decide +kernel
theorem e_q_cell_54 : decode b_Mo_cell 54 = .ok (.ifCond .ne 8, 3) := by decide +kernel
theorem f_q_cell_62_1 : mblkB b_Mo_cell [(62, .iload_n 3, vi 0)] = true := by decide +kernel
theorem e_q_cell_63 : decode b_Mo_cell 63 = .ok (.iastore, 1) := by decide +kernel
theorem f_q_cell_64_1 : mblkB b_Mo_cell [(64, .iconst 1, vi 1)] = true := by decide +kernel
theorem e_q_cell_65 : decode b_Mo_cell 65 = .ok (.ireturn, 1) := by decide +kernel
theorem f_q_cell_57_3 : mblkB b_Mo_cell [(57, .iload_n 3, vi 0), (58, .i2b, vi 0), (59, .goto 4, vi 63)] = true := by decide +kernel
theorem f_q_cell_38_1 : mblkB b_Mo_cell [(38, .bipush (-12), vi (-12))] = true := by decide +kernel
theorem e_q_cell_40 : decode b_Mo_cell 40 = .ok (.ireturn, 1) := by decide +kernel
theorem f_q_cell_19_1 : mblkB b_Mo_cell [(19, .bipush (-11), vi (-11))] = true := by decide +kernel
theorem e_q_cell_21 : decode b_Mo_cell 21 = .ok (.ireturn, 1) := by decide +kernel
theorem f_q_cell_7_1 : mblkB b_Mo_cell [(7, .bipush (-2), vi (-2))] = true := by decide +kernel
theorem e_q_cell_9 : decode b_Mo_cell 9 = .ok (.ireturn, 1) := by decide +kernel
set_option maxHeartbeats 40000000 in
set_option maxRecDepth 100000 in
theorem q_cell (l : Launch) (D : va_G) (B : Nat) (H0 : Heap) (ad : mAd) (A : mA) (hT : mTy A)  (s : Int) (i : Int) (v : Int) (hsr : -2147483648 ≤ s ∧ s ≤ 2147483647) (hir : -2147483648 ≤ i ∧ i ≤ 2147483647) (hvr : -2147483648 ≤ v ∧ v ≤ 2147483647) (hI : mI A)  : mMet l D B H0 ad y_Mo_cell b_Mo_cell 4 (some .int) 920 23600 [vr 0 0, vi s, vi i, vi v] A (fun v9 A9 => ∃ z : Int, v9 = some (vi z) ∧ mTy A9 ∧ mEq sm A A9 ∧ (-2147483648 ≤ z ∧ z ≤ 2147483647) ∧ (mI A9)) := by
  refine m_met (by decide) rfl (fun g w0 C Rm Y E => ?_)
  have hE0 : mEq sm A A := mEq.rfl'
  show JM g D ad w0 A 0 [(0, vr 0 0), (1, vi s), (2, vi i), (3, vi v)] []
  have r0 : 0 ≤ A 0 0 0 ∧ A 0 0 0 ≤ 6 := hT 0 0 0
  refine m_blk 1 [(0, vr 0 0), (1, vi s), (2, vi i), (3, vi v)] [vi s] C f_q_cell_0_1 rfl ?_
  refine m_callS C Rm Y [vi s] [] (q_isSheet l D B H0 ad _ s (by show -2147483648 ≤ s ∧ s ≤ 2147483647; omega)) cl_Mo_422 e_q_cell_1 rfl rfl rfl ⟨by decide, by decide⟩ ?_
  rintro v1 A2 ⟨z5, rfl, rfl, raw_hz_n4⟩
  show JM g D ad w0 A 4 [(0, vr 0 0), (1, vi s), (2, vi i), (3, vi v)] [vi z5]
  have hz_n4 : z5 = 1 ∧ 0 ≤ s ∧ s ≤ 3 ∨ z5 = 0 ∧ ¬ (0 ≤ s ∧ s ≤ 3) := raw_hz_n4
  clear raw_hz_n4
  rcases hz_n4 with ⟨e_n4, hz_n4⟩ | ⟨e_n4, hz_n4⟩
  · subst e_n4
    refine m_if_ne (tgt := 10) C e_q_cell_4 (by decide) (by decide) (fun c6 => ?_) (fun c6 => (by omega : False).elim)
    refine m_blk 11 [(0, vr 0 0), (1, vi s), (2, vi i), (3, vi v)] [vr 0 0] C f_q_cell_10_1 rfl ?_
    refine m_getr C e_q_cell_11 fg_Mo_92 rfl (by decide) rfl ?_
    refine m_blk 15 [(0, vr 0 0), (1, vi s), (2, vi i), (3, vi v)] [vi s, vr 11 0] C f_q_cell_14_1 rfl ?_
    obtain ⟨x7, hx7⟩ : ∃ x, A 11 0 s.toNat = x := ⟨_, rfl⟩
    have rx7 : (-1) ≤ x7 ∧ x7 ≤ 1 := mrg hT hx7 rfl
    refine m_iald C e_q_cell_15 rfl (by decide) (by decide) (by omega) (by show s < ((4 : Nat) : Int); omega) x7 hx7 ?_
    refine m_if_ge (tgt := 22) C e_q_cell_16 (by decide) (by omega) (fun c8 => ?_) (fun c8 => ?_)
    · refine m_blk 25 [(0, vr 0 0), (1, vi s), (2, vi i), (3, vi v)] [vr 0 0, vi 0, vi i] C f_q_cell_22_3 rfl ?_
      refine m_getr C e_q_cell_25 fg_Mo_95 rfl (by decide) rfl ?_
      refine m_blk 29 [(0, vr 0 0), (1, vi s), (2, vi i), (3, vi v)] [vi s, vr 12 0, vi 0, vi i] C f_q_cell_28_1 rfl ?_
      obtain ⟨x9, hx9⟩ : ∃ x, A 12 0 s.toNat = x := ⟨_, rfl⟩
      have rx9 : 0 ≤ x9 ∧ x9 ≤ 40 := mrg hT hx9 rfl
      refine m_iald C e_q_cell_29 rfl (by decide) (by decide) (by omega) (by show s < ((4 : Nat) : Int); omega) x9 hx9 ?_
      refine m_blk 32 [(0, vr 0 0), (1, vi s), (2, vi i), (3, vi v)] [vi (x9 - 1), vi 0, vi i] C f_q_cell_30_2 rfl ?_
      refine m_callS C Rm Y [vi i, vi 0, vi (x9 - 1)] [] (q_in l D B H0 ad _ i 0 (x9 - 1) (by show -2147483648 ≤ i ∧ i ≤ 2147483647; omega) (by show -2147483648 ≤ 0 ∧ 0 ≤ 2147483647; omega) (by show -2147483648 ≤ (x9 - 1) ∧ (x9 - 1) ≤ 2147483647; omega)) cl_Mo_108 e_q_cell_32 rfl rfl rfl ⟨by decide, by decide⟩ ?_
      rintro v10 A11 ⟨z14, rfl, rfl, raw_hz_n13⟩
      show JM g D ad w0 A 35 [(0, vr 0 0), (1, vi s), (2, vi i), (3, vi v)] [vi z14]
      have hz_n13 : z14 = 1 ∧ 0 ≤ i ∧ i ≤ (x9 - 1) ∨ z14 = 0 ∧ ¬ (0 ≤ i ∧ i ≤ (x9 - 1)) := raw_hz_n13
      clear raw_hz_n13
      rcases hz_n13 with ⟨e_n13, hz_n13⟩ | ⟨e_n13, hz_n13⟩
      · subst e_n13
        refine m_if_ne (tgt := 41) C e_q_cell_35 (by decide) (by decide) (fun c15 => ?_) (fun c15 => (by omega : False).elim)
        refine m_blk 42 [(0, vr 0 0), (1, vi s), (2, vi i), (3, vi v)] [vr 0 0] C f_q_cell_41_1 rfl ?_
        refine m_getr C e_q_cell_42 fg_Mo_98 rfl (by decide) rfl ?_
        refine m_blk 46 [(0, vr 0 0), (1, vi s), (2, vi i), (3, vi v)] [vi s, vr 29 0] C f_q_cell_45_1 rfl ?_
        refine m_aald C s.toNat e_q_cell_46 rfl rfl rfl (by decide) (by decide) (by omega) (by show s < ((4 : Nat) : Int); omega) (mz _ _) ?_
        refine m_blk 49 [(0, vr 0 0), (1, vi s), (2, vi i), (3, vi v)] [vr 0 0, vi i, vr 49 s.toNat] C f_q_cell_47_2 rfl ?_
        refine m_getr C e_q_cell_49 fg_Mo_92 rfl (by decide) rfl ?_
        refine m_blk 53 [(0, vr 0 0), (1, vi s), (2, vi i), (3, vi v)] [vi s, vr 11 0, vi i, vr 49 s.toNat] C f_q_cell_52_1 rfl ?_
        refine m_iald C e_q_cell_53 rfl (by decide) (by decide) (by omega) (by show s < ((4 : Nat) : Int); omega) x7 hx7 ?_
        refine m_if_ne (tgt := 62) C e_q_cell_54 (by decide) (by omega) (fun c16 => ?_) (fun c16 => ?_)
        · refine m_blk 63 [(0, vr 0 0), (1, vi s), (2, vi i), (3, vi v)] [vi v, vi i, vr 49 s.toNat] C f_q_cell_62_1 rfl ?_
          refine m_nrm (fun y17 hy17 => ?_)
          refine m_iast C e_q_cell_63 rfl (by omega) (by decide) (by omega) (by show i < ((40 : Nat) : Int); omega) ?_
          have t18 : mTy (mu A 49 s.toNat i.toNat y17) := hT.mu (by show (-2147483648) ≤ y17 ∧ y17 ≤ 2147483647; omega)
          have q19 := hE0.mu (f := 49) (k := s.toNat) (j := i.toNat) (z := y17) (by simp [sm])
          refine m_blk 65 [(0, vr 0 0), (1, vi s), (2, vi i), (3, vi v)] [vi 1] C f_q_cell_64_1 rfl ?_
          exact m_iret C Rm E e_q_cell_65 ⟨1, rfl, t18, q19, (by show -2147483648 ≤ 1 ∧ 1 ≤ 2147483647; omega), (hI.smk q19)⟩
        · refine m_blk 63 [(0, vr 0 0), (1, vi s), (2, vi i), (3, vi v)] [vi (iByt v), vi i, vr 49 s.toNat] C f_q_cell_57_3 rfl ?_
          refine m_nrm (fun y20 hy20 => ?_)
          refine m_iast C e_q_cell_63 rfl (by omega) (by decide) (by omega) (by show i < ((40 : Nat) : Int); omega) ?_
          have t21 : mTy (mu A 49 s.toNat i.toNat y20) := hT.mu (by show (-2147483648) ≤ y20 ∧ y20 ≤ 2147483647; omega)
          have q22 := hE0.mu (f := 49) (k := s.toNat) (j := i.toNat) (z := y20) (by simp [sm])
          refine m_blk 65 [(0, vr 0 0), (1, vi s), (2, vi i), (3, vi v)] [vi 1] C f_q_cell_64_1 rfl ?_
          exact m_iret C Rm E e_q_cell_65 ⟨1, rfl, t21, q22, (by show -2147483648 ≤ 1 ∧ 1 ≤ 2147483647; omega), (hI.smk q22)⟩
      · subst e_n13
        refine m_if_ne (tgt := 41) C e_q_cell_35 (by decide) (by decide) (fun c23 => (by omega : False).elim) (fun c23 => ?_)
        refine m_blk 40 [(0, vr 0 0), (1, vi s), (2, vi i), (3, vi v)] [vi (-12)] C f_q_cell_38_1 rfl ?_
        exact m_iret C Rm E e_q_cell_40 ⟨(-12), rfl, hT, hE0, (by show -2147483648 ≤ (-12) ∧ (-12) ≤ 2147483647; omega), (hI.smk hE0)⟩
    · refine m_blk 21 [(0, vr 0 0), (1, vi s), (2, vi i), (3, vi v)] [vi (-11)] C f_q_cell_19_1 rfl ?_
      exact m_iret C Rm E e_q_cell_21 ⟨(-11), rfl, hT, hE0, (by show -2147483648 ≤ (-11) ∧ (-11) ≤ 2147483647; omega), (hI.smk hE0)⟩
  · subst e_n4
    refine m_if_ne (tgt := 10) C e_q_cell_4 (by decide) (by decide) (fun c24 => (by omega : False).elim) (fun c24 => ?_)
    refine m_blk 9 [(0, vr 0 0), (1, vi s), (2, vi i), (3, vi v)] [vi (-2)] C f_q_cell_7_1 rfl ?_
    exact m_iret C Rm E e_q_cell_9 ⟨(-2), rfl, hT, hE0, (by show -2147483648 ≤ (-2) ∧ (-2) ≤ 2147483647; omega), (hI.smk hE0)⟩

theorem f_q_copyF_0_1 : mblkB b_Mo_copy [(0, .iload_n 1, vi 0)] = true := by decide +kernel
theorem e_q_copyF_1 : decode b_Mo_copy 1 = .ok (.invokestatic 422, 3) := by decide +kernel
theorem e_q_copyF_4 : decode b_Mo_copy 4 = .ok (.ifCond .eq 10, 3) := by decide +kernel
theorem f_q_copyF_7_1 : mblkB b_Mo_copy [(7, .iload_n 3, vi 0)] = true := by decide +kernel
theorem e_q_copyF_8 : decode b_Mo_copy 8 = .ok (.invokestatic 422, 3) := by decide +kernel
theorem e_q_copyF_11 : decode b_Mo_copy 11 = .ok (.ifCond .ne 6, 3) := by decide +kernel
theorem f_q_copyF_17_1 : mblkB b_Mo_copy [(17, .aload_n 0, vi 0)] = true := by decide +kernel
theorem e_q_copyF_18 : decode b_Mo_copy 18 = .ok (.getfield 92, 3) := by decide +kernel
theorem f_q_copyF_21_1 : mblkB b_Mo_copy [(21, .iload_n 1, vi 0)] = true := by decide +kernel
theorem e_q_copyF_22 : decode b_Mo_copy 22 = .ok (.iaload, 1) := by decide +kernel
theorem e_q_copyF_23 : decode b_Mo_copy 23 = .ok (.ifCond .lt 12, 3) := by decide +kernel
theorem f_q_copyF_35_1 : mblkB b_Mo_copy [(35, .bipush (-11), vi (-11))] = true := by decide +kernel
theorem e_q_copyF_37 : decode b_Mo_copy 37 = .ok (.ireturn, 1) := by decide +kernel
theorem f_q_copyF_26_1 : mblkB b_Mo_copy [(26, .aload_n 0, vi 0)] = true := by decide +kernel
theorem e_q_copyF_27 : decode b_Mo_copy 27 = .ok (.getfield 92, 3) := by decide +kernel
theorem f_q_copyF_30_1 : mblkB b_Mo_copy [(30, .iload_n 3, vi 0)] = true := by decide +kernel
theorem e_q_copyF_31 : decode b_Mo_copy 31 = .ok (.iaload, 1) := by decide +kernel
theorem e_q_copyF_32 : decode b_Mo_copy 32 = .ok (.ifCond .ge 6, 3) := by decide +kernel
theorem f_q_copyF_38_1 : mblkB b_Mo_copy [(38, .aload_n 0, vi 0)] = true := by decide +kernel
theorem e_q_copyF_39 : decode b_Mo_copy 39 = .ok (.getfield 92, 3) := by decide +kernel
theorem f_q_copyF_42_1 : mblkB b_Mo_copy [(42, .iload_n 1, vi 0)] = true := by decide +kernel
theorem e_q_copyF_43 : decode b_Mo_copy 43 = .ok (.iaload, 1) := by decide +kernel
theorem f_q_copyF_44_1 : mblkB b_Mo_copy [(44, .aload_n 0, vi 0)] = true := by decide +kernel
theorem e_q_copyF_45 : decode b_Mo_copy 45 = .ok (.getfield 92, 3) := by decide +kernel
theorem f_q_copyF_48_1 : mblkB b_Mo_copy [(48, .iload_n 3, vi 0)] = true := by decide +kernel
theorem e_q_copyF_49 : decode b_Mo_copy 49 = .ok (.iaload, 1) := by decide +kernel
theorem e_q_copyF_50 : decode b_Mo_copy 50 = .ok (.if_icmp .eq 6, 3) := by decide +kernel
theorem f_q_copyF_56_1 : mblkB b_Mo_copy [(56, .iload 5, vi 0)] = true := by decide +kernel
theorem e_q_copyF_58 : decode b_Mo_copy 58 = .ok (.ifCond .lt 39, 3) := by decide +kernel
theorem f_q_copyF_97_1 : mblkB b_Mo_copy [(97, .bipush (-12), vi (-12))] = true := by decide +kernel
theorem e_q_copyF_99 : decode b_Mo_copy 99 = .ok (.ireturn, 1) := by decide +kernel
theorem f_q_copyF_61_1 : mblkB b_Mo_copy [(61, .iload_n 2, vi 0)] = true := by decide +kernel
theorem e_q_copyF_62 : decode b_Mo_copy 62 = .ok (.ifCond .lt 35, 3) := by decide +kernel
theorem f_q_copyF_65_1 : mblkB b_Mo_copy [(65, .iload 4, vi 0)] = true := by decide +kernel
theorem e_q_copyF_67 : decode b_Mo_copy 67 = .ok (.ifCond .lt 30, 3) := by decide +kernel
theorem f_q_copyF_70_2 : mblkB b_Mo_copy [(70, .iload_n 2, vi 0), (71, .aload_n 0, vi 0)] = true := by decide +kernel
theorem e_q_copyF_72 : decode b_Mo_copy 72 = .ok (.getfield 95, 3) := by decide +kernel
theorem f_q_copyF_75_1 : mblkB b_Mo_copy [(75, .iload_n 1, vi 0)] = true := by decide +kernel
theorem e_q_copyF_76 : decode b_Mo_copy 76 = .ok (.iaload, 1) := by decide +kernel
theorem f_q_copyF_77_2 : mblkB b_Mo_copy [(77, .iload 5, vi 0), (79, .isub, vi 0)] = true := by decide +kernel
theorem e_q_copyF_80 : decode b_Mo_copy 80 = .ok (.if_icmp .gt 17, 3) := by decide +kernel
theorem f_q_copyF_83_2 : mblkB b_Mo_copy [(83, .iload 4, vi 0), (85, .aload_n 0, vi 0)] = true := by decide +kernel
theorem e_q_copyF_86 : decode b_Mo_copy 86 = .ok (.getfield 95, 3) := by decide +kernel
theorem f_q_copyF_89_1 : mblkB b_Mo_copy [(89, .iload_n 3, vi 0)] = true := by decide +kernel
theorem e_q_copyF_90 : decode b_Mo_copy 90 = .ok (.iaload, 1) := by decide +kernel
theorem f_q_copyF_91_2 : mblkB b_Mo_copy [(91, .iload 5, vi 0), (93, .isub, vi 0)] = true := by decide +kernel
theorem e_q_copyF_94 : decode b_Mo_copy 94 = .ok (.if_icmp .le 6, 3) := by decide +kernel
theorem f_q_copyF_100_1 : mblkB b_Mo_copy [(100, .aload_n 0, vi 0)] = true := by decide +kernel
theorem e_q_copyF_101 : decode b_Mo_copy 101 = .ok (.getfield 98, 3) := by decide +kernel
theorem f_q_copyF_104_1 : mblkB b_Mo_copy [(104, .iload_n 1, vi 0)] = true := by decide +kernel
theorem e_q_copyF_105 : decode b_Mo_copy 105 = .ok (.aaload, 1) := by decide +kernel
theorem f_q_copyF_106_2 : mblkB b_Mo_copy [(106, .iload_n 2, vi 0), (107, .aload_n 0, vi 0)] = true := by decide +kernel
theorem e_q_copyF_108 : decode b_Mo_copy 108 = .ok (.getfield 101, 3) := by decide +kernel
theorem f_q_copyF_111_2 : mblkB b_Mo_copy [(111, .iconst 0, vi 0), (112, .iload 5, vi 0)] = true := by decide +kernel
theorem e_q_copyF_114 : decode b_Mo_copy 114 = .ok (.invokestatic 428, 3) := by decide +kernel
theorem f_q_copyF_117_1 : mblkB b_Mo_copy [(117, .aload_n 0, vi 0)] = true := by decide +kernel
theorem e_q_copyF_118 : decode b_Mo_copy 118 = .ok (.getfield 101, 3) := by decide +kernel
theorem f_q_copyF_121_2 : mblkB b_Mo_copy [(121, .iconst 0, vi 0), (122, .aload_n 0, vi 0)] = true := by decide +kernel
theorem e_q_copyF_123 : decode b_Mo_copy 123 = .ok (.getfield 98, 3) := by decide +kernel
theorem f_q_copyF_126_1 : mblkB b_Mo_copy [(126, .iload_n 3, vi 0)] = true := by decide +kernel
theorem e_q_copyF_127 : decode b_Mo_copy 127 = .ok (.aaload, 1) := by decide +kernel
theorem f_q_copyF_128_2 : mblkB b_Mo_copy [(128, .iload 4, vi 0), (130, .iload 5, vi 0)] = true := by decide +kernel
theorem e_q_copyF_132 : decode b_Mo_copy 132 = .ok (.invokestatic 428, 3) := by decide +kernel
theorem f_q_copyF_135_1 : mblkB b_Mo_copy [(135, .iload 5, vi 0)] = true := by decide +kernel
theorem e_q_copyF_137 : decode b_Mo_copy 137 = .ok (.ireturn, 1) := by decide +kernel
theorem f_q_copyF_53_1 : mblkB b_Mo_copy [(53, .bipush (-13), vi (-13))] = true := by decide +kernel
theorem e_q_copyF_55 : decode b_Mo_copy 55 = .ok (.ireturn, 1) := by decide +kernel
theorem f_q_copyF_14_1 : mblkB b_Mo_copy [(14, .bipush (-2), vi (-2))] = true := by decide +kernel
theorem e_q_copyF_16 : decode b_Mo_copy 16 = .ok (.ireturn, 1) := by decide +kernel
set_option maxHeartbeats 40000000 in
set_option maxRecDepth 100000 in
theorem q_copyF (l : Launch) (D : va_G) (B : Nat) (H0 : Heap) (ad : mAd) (A : mA) (hT : mTy A)  (s : Int) (i : Int) (o : Int) (j : Int) (n : Int) (hsr : -2147483648 ≤ s ∧ s ≤ 2147483647) (hir : -2147483648 ≤ i ∧ i ≤ 2147483647) (hor : -2147483648 ≤ o ∧ o ≤ 2147483647) (hjr : -2147483648 ≤ j ∧ j ≤ 2147483647) (hnr : -2147483648 ≤ n ∧ n ≤ 2147483647) (hI : mI A)  : mMet l D B H0 ad y_Mo_copy b_Mo_copy 6 (some .int) 920 23600 [vr 0 0, vi s, vi i, vi o, vi j, vi n] A (fun v9 A9 => ∃ z : Int, v9 = some (vi z) ∧ mTy A9 ∧ mEq sm A A9 ∧ (-2147483648 ≤ z ∧ z ≤ 2147483647) ∧ (mI A9)) := by
  refine m_met (by decide) rfl (fun g w0 C Rm Y E => ?_)
  have hE0 : mEq sm A A := mEq.rfl'
  show JM g D ad w0 A 0 [(0, vr 0 0), (1, vi s), (2, vi i), (3, vi o), (4, vi j), (5, vi n)] []
  have r0 : 0 ≤ A 0 0 0 ∧ A 0 0 0 ≤ 6 := hT 0 0 0
  refine m_blk 1 [(0, vr 0 0), (1, vi s), (2, vi i), (3, vi o), (4, vi j), (5, vi n)] [vi s] C f_q_copyF_0_1 rfl ?_
  refine m_callS C Rm Y [vi s] [] (q_isSheet l D B H0 ad _ s (by show -2147483648 ≤ s ∧ s ≤ 2147483647; omega)) cl_Mo_422 e_q_copyF_1 rfl rfl rfl ⟨by decide, by decide⟩ ?_
  rintro v1 A2 ⟨z5, rfl, rfl, raw_hz_n4⟩
  show JM g D ad w0 A 4 [(0, vr 0 0), (1, vi s), (2, vi i), (3, vi o), (4, vi j), (5, vi n)] [vi z5]
  have hz_n4 : z5 = 1 ∧ 0 ≤ s ∧ s ≤ 3 ∨ z5 = 0 ∧ ¬ (0 ≤ s ∧ s ≤ 3) := raw_hz_n4
  clear raw_hz_n4
  rcases hz_n4 with ⟨e_n4, hz_n4⟩ | ⟨e_n4, hz_n4⟩
  · subst e_n4
    refine m_if_eq (tgt := 14) C e_q_copyF_4 (by decide) (by decide) (fun c6 => (by omega : False).elim) (fun c6 => ?_)
    refine m_blk 8 [(0, vr 0 0), (1, vi s), (2, vi i), (3, vi o), (4, vi j), (5, vi n)] [vi o] C f_q_copyF_7_1 rfl ?_
    refine m_callS C Rm Y [vi o] [] (q_isSheet l D B H0 ad _ o (by show -2147483648 ≤ o ∧ o ≤ 2147483647; omega)) cl_Mo_422 e_q_copyF_8 rfl rfl rfl ⟨by decide, by decide⟩ ?_
    rintro v7 A8 ⟨z11, rfl, rfl, raw_hz_n10⟩
    show JM g D ad w0 A 11 [(0, vr 0 0), (1, vi s), (2, vi i), (3, vi o), (4, vi j), (5, vi n)] [vi z11]
    have hz_n10 : z11 = 1 ∧ 0 ≤ o ∧ o ≤ 3 ∨ z11 = 0 ∧ ¬ (0 ≤ o ∧ o ≤ 3) := raw_hz_n10
    clear raw_hz_n10
    rcases hz_n10 with ⟨e_n10, hz_n10⟩ | ⟨e_n10, hz_n10⟩
    · subst e_n10
      refine m_if_ne (tgt := 17) C e_q_copyF_11 (by decide) (by decide) (fun c12 => ?_) (fun c12 => (by omega : False).elim)
      refine m_blk 18 [(0, vr 0 0), (1, vi s), (2, vi i), (3, vi o), (4, vi j), (5, vi n)] [vr 0 0] C f_q_copyF_17_1 rfl ?_
      refine m_getr C e_q_copyF_18 fg_Mo_92 rfl (by decide) rfl ?_
      refine m_blk 22 [(0, vr 0 0), (1, vi s), (2, vi i), (3, vi o), (4, vi j), (5, vi n)] [vi s, vr 11 0] C f_q_copyF_21_1 rfl ?_
      obtain ⟨x13, hx13⟩ : ∃ x, A 11 0 s.toNat = x := ⟨_, rfl⟩
      have rx13 : (-1) ≤ x13 ∧ x13 ≤ 1 := mrg hT hx13 rfl
      refine m_iald C e_q_copyF_22 rfl (by decide) (by decide) (by omega) (by show s < ((4 : Nat) : Int); omega) x13 hx13 ?_
      refine m_if_lt (tgt := 35) C e_q_copyF_23 (by decide) (by omega) (fun c14 => ?_) (fun c14 => ?_)
      · refine m_blk 37 [(0, vr 0 0), (1, vi s), (2, vi i), (3, vi o), (4, vi j), (5, vi n)] [vi (-11)] C f_q_copyF_35_1 rfl ?_
        exact m_iret C Rm E e_q_copyF_37 ⟨(-11), rfl, hT, hE0, (by show -2147483648 ≤ (-11) ∧ (-11) ≤ 2147483647; omega), (hI.smk hE0)⟩
      · refine m_blk 27 [(0, vr 0 0), (1, vi s), (2, vi i), (3, vi o), (4, vi j), (5, vi n)] [vr 0 0] C f_q_copyF_26_1 rfl ?_
        refine m_getr C e_q_copyF_27 fg_Mo_92 rfl (by decide) rfl ?_
        refine m_blk 31 [(0, vr 0 0), (1, vi s), (2, vi i), (3, vi o), (4, vi j), (5, vi n)] [vi o, vr 11 0] C f_q_copyF_30_1 rfl ?_
        obtain ⟨x15, hx15⟩ : ∃ x, A 11 0 o.toNat = x := ⟨_, rfl⟩
        have rx15 : (-1) ≤ x15 ∧ x15 ≤ 1 := mrg hT hx15 rfl
        refine m_iald C e_q_copyF_31 rfl (by decide) (by decide) (by omega) (by show o < ((4 : Nat) : Int); omega) x15 hx15 ?_
        refine m_if_ge (tgt := 38) C e_q_copyF_32 (by decide) (by omega) (fun c16 => ?_) (fun c16 => ?_)
        · refine m_blk 39 [(0, vr 0 0), (1, vi s), (2, vi i), (3, vi o), (4, vi j), (5, vi n)] [vr 0 0] C f_q_copyF_38_1 rfl ?_
          refine m_getr C e_q_copyF_39 fg_Mo_92 rfl (by decide) rfl ?_
          refine m_blk 43 [(0, vr 0 0), (1, vi s), (2, vi i), (3, vi o), (4, vi j), (5, vi n)] [vi s, vr 11 0] C f_q_copyF_42_1 rfl ?_
          refine m_iald C e_q_copyF_43 rfl (by decide) (by decide) (by omega) (by show s < ((4 : Nat) : Int); omega) x13 hx13 ?_
          refine m_blk 45 [(0, vr 0 0), (1, vi s), (2, vi i), (3, vi o), (4, vi j), (5, vi n)] [vr 0 0, vi x13] C f_q_copyF_44_1 rfl ?_
          refine m_getr C e_q_copyF_45 fg_Mo_92 rfl (by decide) rfl ?_
          refine m_blk 49 [(0, vr 0 0), (1, vi s), (2, vi i), (3, vi o), (4, vi j), (5, vi n)] [vi o, vr 11 0, vi x13] C f_q_copyF_48_1 rfl ?_
          refine m_iald C e_q_copyF_49 rfl (by decide) (by decide) (by omega) (by show o < ((4 : Nat) : Int); omega) x15 hx15 ?_
          refine m_icmp_eq (tgt := 56) C e_q_copyF_50 (by decide) (by omega) (by omega) (fun c17 => ?_) (fun c17 => ?_)
          · refine m_blk 58 [(0, vr 0 0), (1, vi s), (2, vi i), (3, vi o), (4, vi j), (5, vi n)] [vi n] C f_q_copyF_56_1 rfl ?_
            refine m_if_lt (tgt := 97) C e_q_copyF_58 (by decide) (by omega) (fun c18 => ?_) (fun c18 => ?_)
            · refine m_blk 99 [(0, vr 0 0), (1, vi s), (2, vi i), (3, vi o), (4, vi j), (5, vi n)] [vi (-12)] C f_q_copyF_97_1 rfl ?_
              exact m_iret C Rm E e_q_copyF_99 ⟨(-12), rfl, hT, hE0, (by show -2147483648 ≤ (-12) ∧ (-12) ≤ 2147483647; omega), (hI.smk hE0)⟩
            · refine m_blk 62 [(0, vr 0 0), (1, vi s), (2, vi i), (3, vi o), (4, vi j), (5, vi n)] [vi i] C f_q_copyF_61_1 rfl ?_
              refine m_if_lt (tgt := 97) C e_q_copyF_62 (by decide) (by omega) (fun c19 => ?_) (fun c19 => ?_)
              · refine m_blk 99 [(0, vr 0 0), (1, vi s), (2, vi i), (3, vi o), (4, vi j), (5, vi n)] [vi (-12)] C f_q_copyF_97_1 rfl ?_
                exact m_iret C Rm E e_q_copyF_99 ⟨(-12), rfl, hT, hE0, (by show -2147483648 ≤ (-12) ∧ (-12) ≤ 2147483647; omega), (hI.smk hE0)⟩
              · refine m_blk 67 [(0, vr 0 0), (1, vi s), (2, vi i), (3, vi o), (4, vi j), (5, vi n)] [vi j] C f_q_copyF_65_1 rfl ?_
                refine m_if_lt (tgt := 97) C e_q_copyF_67 (by decide) (by omega) (fun c20 => ?_) (fun c20 => ?_)
                · refine m_blk 99 [(0, vr 0 0), (1, vi s), (2, vi i), (3, vi o), (4, vi j), (5, vi n)] [vi (-12)] C f_q_copyF_97_1 rfl ?_
                  exact m_iret C Rm E e_q_copyF_99 ⟨(-12), rfl, hT, hE0, (by show -2147483648 ≤ (-12) ∧ (-12) ≤ 2147483647; omega), (hI.smk hE0)⟩
                · refine m_blk 72 [(0, vr 0 0), (1, vi s), (2, vi i), (3, vi o), (4, vi j), (5, vi n)] [vr 0 0, vi i] C f_q_copyF_70_2 rfl ?_
                  refine m_getr C e_q_copyF_72 fg_Mo_95 rfl (by decide) rfl ?_
                  refine m_blk 76 [(0, vr 0 0), (1, vi s), (2, vi i), (3, vi o), (4, vi j), (5, vi n)] [vi s, vr 12 0, vi i] C f_q_copyF_75_1 rfl ?_
                  obtain ⟨x21, hx21⟩ : ∃ x, A 12 0 s.toNat = x := ⟨_, rfl⟩
                  have rx21 : 0 ≤ x21 ∧ x21 ≤ 40 := mrg hT hx21 rfl
                  refine m_iald C e_q_copyF_76 rfl (by decide) (by decide) (by omega) (by show s < ((4 : Nat) : Int); omega) x21 hx21 ?_
                  refine m_blk 80 [(0, vr 0 0), (1, vi s), (2, vi i), (3, vi o), (4, vi j), (5, vi n)] [vi (x21 - n), vi i] C f_q_copyF_77_2 rfl ?_
                  refine m_icmp_gt (tgt := 97) C e_q_copyF_80 (by decide) (by omega) (by omega) (fun c22 => ?_) (fun c22 => ?_)
                  · refine m_blk 99 [(0, vr 0 0), (1, vi s), (2, vi i), (3, vi o), (4, vi j), (5, vi n)] [vi (-12)] C f_q_copyF_97_1 rfl ?_
                    exact m_iret C Rm E e_q_copyF_99 ⟨(-12), rfl, hT, hE0, (by show -2147483648 ≤ (-12) ∧ (-12) ≤ 2147483647; omega), (hI.smk hE0)⟩
                  · refine m_blk 86 [(0, vr 0 0), (1, vi s), (2, vi i), (3, vi o), (4, vi j), (5, vi n)] [vr 0 0, vi j] C f_q_copyF_83_2 rfl ?_
                    refine m_getr C e_q_copyF_86 fg_Mo_95 rfl (by decide) rfl ?_
                    refine m_blk 90 [(0, vr 0 0), (1, vi s), (2, vi i), (3, vi o), (4, vi j), (5, vi n)] [vi o, vr 12 0, vi j] C f_q_copyF_89_1 rfl ?_
                    obtain ⟨x23, hx23⟩ : ∃ x, A 12 0 o.toNat = x := ⟨_, rfl⟩
                    have rx23 : 0 ≤ x23 ∧ x23 ≤ 40 := mrg hT hx23 rfl
                    refine m_iald C e_q_copyF_90 rfl (by decide) (by decide) (by omega) (by show o < ((4 : Nat) : Int); omega) x23 hx23 ?_
                    refine m_blk 94 [(0, vr 0 0), (1, vi s), (2, vi i), (3, vi o), (4, vi j), (5, vi n)] [vi (x23 - n), vi j] C f_q_copyF_91_2 rfl ?_
                    refine m_icmp_le (tgt := 100) C e_q_copyF_94 (by decide) (by omega) (by omega) (fun c24 => ?_) (fun c24 => ?_)
                    · have rl9 : 0 ≤ A 12 0 s.toNat ∧ A 12 0 s.toNat ≤ 40 := hT 12 0 s.toNat
                      have rl8 : 0 ≤ A 12 0 o.toNat ∧ A 12 0 o.toNat ≤ 40 := hT 12 0 o.toNat
                      refine m_blk 101 [(0, vr 0 0), (1, vi s), (2, vi i), (3, vi o), (4, vi j), (5, vi n)] [vr 0 0] C f_q_copyF_100_1 rfl ?_
                      refine m_getr C e_q_copyF_101 fg_Mo_98 rfl (by decide) rfl ?_
                      refine m_blk 105 [(0, vr 0 0), (1, vi s), (2, vi i), (3, vi o), (4, vi j), (5, vi n)] [vi s, vr 29 0] C f_q_copyF_104_1 rfl ?_
                      refine m_aald C s.toNat e_q_copyF_105 rfl rfl rfl (by decide) (by decide) (by omega) (by show s < ((4 : Nat) : Int); omega) (mz _ _) ?_
                      refine m_blk 108 [(0, vr 0 0), (1, vi s), (2, vi i), (3, vi o), (4, vi j), (5, vi n)] [vr 0 0, vi i, vr 49 s.toNat] C f_q_copyF_106_2 rfl ?_
                      refine m_getr C e_q_copyF_108 fg_Mo_101 rfl (by decide) rfl ?_
                      refine m_blk 114 [(0, vr 0 0), (1, vi s), (2, vi i), (3, vi o), (4, vi j), (5, vi n)] [vi n, vi 0, vr 13 0, vi i, vr 49 s.toNat] C f_q_copyF_111_2 rfl ?_
                      refine m_copyi C Rm cl_Mo_428 e_q_copyF_114 rfl (by omega) rfl (by decide) (by decide) (by omega) (by decide) (by omega) (by show _ ≤ ((40 : Nat) : Int); omega) (by show _ ≤ ((40 : Nat) : Int); omega) (by decide) (Nat.le_of_ble_eq_true rfl) ?_
                      have t25 : mTy (mcp A 49 s.toNat i.toNat 13 0 0 n.toNat) := hT.cp (fun _ _ => rfl)
                      have q26 : mEq sm A (mcp A 49 s.toNat i.toNat 13 0 0 n.toNat) := hE0.cp (by intro j; simp [sm])
                      refine m_blk 118 [(0, vr 0 0), (1, vi s), (2, vi i), (3, vi o), (4, vi j), (5, vi n)] [vr 0 0] C f_q_copyF_117_1 rfl ?_
                      refine m_getr C e_q_copyF_118 fg_Mo_101 rfl (by decide) rfl ?_
                      refine m_blk 123 [(0, vr 0 0), (1, vi s), (2, vi i), (3, vi o), (4, vi j), (5, vi n)] [vr 0 0, vi 0, vr 13 0] C f_q_copyF_121_2 rfl ?_
                      refine m_getr C e_q_copyF_123 fg_Mo_98 rfl (by decide) rfl ?_
                      refine m_blk 127 [(0, vr 0 0), (1, vi s), (2, vi i), (3, vi o), (4, vi j), (5, vi n)] [vi o, vr 29 0, vi 0, vr 13 0] C f_q_copyF_126_1 rfl ?_
                      refine m_aald C o.toNat e_q_copyF_127 rfl rfl rfl (by decide) (by decide) (by omega) (by show o < ((4 : Nat) : Int); omega) (mz _ _) ?_
                      refine m_blk 132 [(0, vr 0 0), (1, vi s), (2, vi i), (3, vi o), (4, vi j), (5, vi n)] [vi n, vi j, vr 49 o.toNat, vi 0, vr 13 0] C f_q_copyF_128_2 rfl ?_
                      refine m_copyi C Rm cl_Mo_428 e_q_copyF_132 rfl (by decide) rfl (by omega) (by decide) (by decide) (by omega) (by omega) (by show _ ≤ ((40 : Nat) : Int); omega) (by show _ ≤ ((40 : Nat) : Int); omega) (by decide) (Nat.le_of_ble_eq_true rfl) ?_
                      have t27 : mTy (mcp (mcp A 49 s.toNat i.toNat 13 0 0 n.toNat) 13 0 0 49 o.toNat j.toNat n.toNat) := t25.cp (fun _ _ => rfl)
                      have q28 : mEq sm A (mcp (mcp A 49 s.toNat i.toNat 13 0 0 n.toNat) 13 0 0 49 o.toNat j.toNat n.toNat) := q26.cp (by intro j; simp [sm])
                      refine m_blk 137 [(0, vr 0 0), (1, vi s), (2, vi i), (3, vi o), (4, vi j), (5, vi n)] [vi n] C f_q_copyF_135_1 rfl ?_
                      exact m_iret C Rm E e_q_copyF_137 ⟨n, rfl, t27, q28, (by show -2147483648 ≤ n ∧ n ≤ 2147483647; omega), (hI.smk q28)⟩
                    · refine m_blk 99 [(0, vr 0 0), (1, vi s), (2, vi i), (3, vi o), (4, vi j), (5, vi n)] [vi (-12)] C f_q_copyF_97_1 rfl ?_
                      exact m_iret C Rm E e_q_copyF_99 ⟨(-12), rfl, hT, hE0, (by show -2147483648 ≤ (-12) ∧ (-12) ≤ 2147483647; omega), (hI.smk hE0)⟩
          · refine m_blk 55 [(0, vr 0 0), (1, vi s), (2, vi i), (3, vi o), (4, vi j), (5, vi n)] [vi (-13)] C f_q_copyF_53_1 rfl ?_
            exact m_iret C Rm E e_q_copyF_55 ⟨(-13), rfl, hT, hE0, (by show -2147483648 ≤ (-13) ∧ (-13) ≤ 2147483647; omega), (hI.smk hE0)⟩
        · refine m_blk 37 [(0, vr 0 0), (1, vi s), (2, vi i), (3, vi o), (4, vi j), (5, vi n)] [vi (-11)] C f_q_copyF_35_1 rfl ?_
          exact m_iret C Rm E e_q_copyF_37 ⟨(-11), rfl, hT, hE0, (by show -2147483648 ≤ (-11) ∧ (-11) ≤ 2147483647; omega), (hI.smk hE0)⟩
    · subst e_n10
      refine m_if_ne (tgt := 17) C e_q_copyF_11 (by decide) (by decide) (fun c29 => (by omega : False).elim) (fun c29 => ?_)
      refine m_blk 16 [(0, vr 0 0), (1, vi s), (2, vi i), (3, vi o), (4, vi j), (5, vi n)] [vi (-2)] C f_q_copyF_14_1 rfl ?_
      exact m_iret C Rm E e_q_copyF_16 ⟨(-2), rfl, hT, hE0, (by show -2147483648 ≤ (-2) ∧ (-2) ≤ 2147483647; omega), (hI.smk hE0)⟩
  · subst e_n4
    refine m_if_eq (tgt := 14) C e_q_copyF_4 (by decide) (by decide) (fun c30 => ?_) (fun c30 => (by omega : False).elim)
    refine m_blk 16 [(0, vr 0 0), (1, vi s), (2, vi i), (3, vi o), (4, vi j), (5, vi n)] [vi (-2)] C f_q_copyF_14_1 rfl ?_
    exact m_iret C Rm E e_q_copyF_16 ⟨(-2), rfl, hT, hE0, (by show -2147483648 ≤ (-2) ∧ (-2) ≤ 2147483647; omega), (hI.smk hE0)⟩
