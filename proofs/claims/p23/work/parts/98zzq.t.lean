/-! count of both (own work) -/
/-- the class's start, image and what the reference has of them -/
def R4 (V : Nat → Value) (A : mA) : Prop := ∃ s si kp : Int32, V 4 = .int s ∧ V 6 = .int si ∧ V 5 = .int kp ∧ (∀ j, j < 6 → nib s j = BitVec.ofInt 32 (A 8 0 j)) ∧ (kp = 0 ∧ A 0 0 37 = -1 ∨ kp ≠ 0 ∧ A 0 0 37 ≠ -1 ∧ ∀ j, j < 6 → nib si j = BitVec.ofInt 32 (A 10 0 j))

abbrev dgt (s n : Int32) : Int32 := (s.toUInt32 >>> (((5 - n) * 4).toUInt32 &&& Int32.toUInt32 31)).toInt32 &&& 15
def dU (s : Int32) : Nat → Int32
  | 0 => 0
  | n + 1 => dU s n * 10 + dgt s (nI n)
def hU (z : Nat → Int) : Nat → Int
  | 0 => 0
  | n + 1 => hU z n * 10 + z n
theorem dU_ok {s : Int32} {A : mA} (h : ∀ j, j < 6 → nib s j = BitVec.ofInt 32 (A 8 0 j)) : ∀ n, n ≤ 6 → dU s n = Int32.ofInt (hU (A 8 0) n) := by
  intro n
  induction n with
  | zero => intro _; rfl
  | succ n ih =>
    intro hn
    have e : (nI n).toInt = n := nI_toInt (by omega)
    have k := dig_ok (s := s) (n := nI n) (by omega) (by omega)
    rw [e, Int.toNat_natCast] at k
    have d : dgt s (nI n) = Int32.ofInt (A 8 0 n) := Int32.toBitVec_inj.mp (k.trans (h n (by omega)))
    show dU s n * 10 + dgt s (nI n) = Int32.ofInt (hU (A 8 0) n * 10 + A 8 0 n)
    rw [Int32.ofInt_add, Int32.ofInt_mul, ih (by omega), d]
    rfl
theorem k_uu_0 : sblk b_CS_unpacked [(0, .iconst 0, .int 0), (1, .istore_n 1, .null), (2, .iconst 0, .int 0), (3, .istore_n 2, .null)] := sblk_of (by decide +kernel)
theorem k_uu_4 : sblk b_CS_unpacked [(4, .iload_n 2, .null), (5, .bipush 6, .int 6)] := sblk_of (by decide +kernel)
theorem d_uu_7 : decode b_CS_unpacked 7 = .ok (.if_icmp .ge 20, 3) := by decide +kernel
theorem k_uu_10 : sblk b_CS_unpacked [(10, .iload_n 1, .null), (11, .bipush 10, .int 10), (13, .imul, .null), (14, .iload_n 0, .null), (15, .iload_n 2, .null)] := sblk_of (by decide +kernel)
theorem d_uu_16 : decode b_CS_unpacked 16 = .ok (.invokestatic 86, 3) := by decide +kernel
theorem k_uu_19 : sblk b_CS_unpacked [(19, .iadd, .null), (20, .istore_n 1, .null), (21, .iinc 2 1, .int 1), (24, .goto (-20), .retAddr 4)] := sblk_of (by decide +kernel)
theorem k_uu_27 : sblk b_CS_unpacked [(27, .iload_n 1, .null)] := sblk_of (by decide +kernel)
theorem d_uu_28 : decode b_CS_unpacked 28 = .ok (.ireturn, 1) := by decide +kernel
set_option maxHeartbeats 4000000 in
set_option maxRecDepth 20000 in
theorem e_CS_unpacked (l : Launch) (D : va_G) (B : Nat) (H0 : Heap) (w : jW) (s : Int32) : jMet l D B H0 y_CS_unpacked b_CS_unpacked 3 (some .int) 1 40 0 0 [.int s] w (fun v w9 => v = some (.int (dU s 6)) ∧ w = w9) := by
  refine j_met (by decide) (Nat.le_of_ble_eq_true rfl) (fun g C Rm Y E => ?_)
  have hk := jkz w
  have e6 : (6 : Int32).toInt = 6 := by decide
  have hd : ∀ n i, i + n = 6 → JJ g w 4 [(2, .int (nI i)), (1, .int (dU s i)), (0, .int s)] [] := by
    intro n
    induction n with
    | zero =>
      intro i hi
      obtain rfl : i = 6 := by omega
      have e : (nI 6).toInt = 6 := by decide
      refine j_blk 7 [(2, .int (nI 6)), (1, .int (dU s 6)), (0, .int s)] [.int 6, .int (nI 6)] C k_uu_4 rfl ?_
      refine j_icmp_ge (tgt := 27) C d_uu_7 (by decide) (fun _ => ?_) (fun c => absurd (by rw [Int32.le_iff_toInt_le, e6, e]; omega) c)
      refine j_blk 28 [(2, .int (nI 6)), (1, .int (dU s 6)), (0, .int s)] [.int (dU s 6)] C k_uu_27 rfl ?_
      exact j_iret C Rm E d_uu_28 ⟨rfl, rfl⟩ (jbnd hk.1 rfl) (jbnd hk.2 rfl)
    | succ n ih =>
      intro i hi
      have e : (nI i).toInt = i := nI_toInt (by omega)
      refine j_blk 7 [(2, .int (nI i)), (1, .int (dU s i)), (0, .int s)] [.int 6, .int (nI i)] C k_uu_4 rfl ?_
      refine j_icmp_ge (tgt := 27) C d_uu_7 (by decide) (fun c => ?_) (fun _ => ?_)
      · exfalso
        rw [Int32.le_iff_toInt_le, e6, e] at c
        omega
      · refine j_blk 16 [(2, .int (nI i)), (1, .int (dU s i)), (0, .int s)] [.int (nI i), .int s, .int (dU s i * 10)] C k_uu_10 rfl ?_
        refine j_callS (As := [.int s, .int (nI i)]) C Rm Y [.int (dU s i * 10)] (e_CS_digitAt l D B H0 w s (nI i)) cl_CS_86 d_uu_16 rfl rfl (Nat.le_of_ble_eq_true rfl) ⟨by decide, by decide⟩ ⟨jroom hk.1 rfl, jroom hk.2 rfl⟩ (fun v5 w_3 pw_3 => ?_)
        obtain ⟨rfl, rfl⟩ := pw_3
        show JJ g w 19 [(2, .int (nI i)), (1, .int (dU s i)), (0, .int s)] [.int (dgt s (nI i)), .int (dU s i * 10)]
        refine j_blk 4 [(2, .int (nI i + 1)), (1, .int (dU s i * 10 + dgt s (nI i))), (0, .int s)] [] C k_uu_19 rfl ?_
        rw [show nI i + 1 = nI (i + 1) from nI_add i 1]
        exact ih (i + 1) (by omega)
  show JJ g w 0 [(0, .int s)] []
  refine j_blk 4 [(2, .int 0), (1, .int 0), (0, .int s)] [] C k_uu_0 rfl ?_
  exact hd 6 0 rfl
theorem k_ct_0 : sblk b_CS_count [(0, .iload_n 1, .null)] := sblk_of (by decide +kernel)
theorem d_ct_1 : decode b_CS_count 1 = .ok (.tableswitch 45 0 2 #[27, 32, 37], 27) := by decide +kernel
theorem k_ct_28 : sblk b_CS_count [(28, .aload_n 0, .null)] := sblk_of (by decide +kernel)
theorem d_ct_29 : decode b_CS_count 29 = .ok (.getfield 59, 3) := by decide +kernel
theorem d_ct_32 : decode b_CS_count 32 = .ok (.ireturn, 1) := by decide +kernel
theorem k_ct_33 : sblk b_CS_count [(33, .aload_n 0, .null)] := sblk_of (by decide +kernel)
theorem d_ct_34 : decode b_CS_count 34 = .ok (.getfield 51, 3) := by decide +kernel
theorem d_ct_37 : decode b_CS_count 37 = .ok (.ireturn, 1) := by decide +kernel
theorem k_ct_38 : sblk b_CS_count [(38, .aload_n 0, .null)] := sblk_of (by decide +kernel)
theorem d_ct_39 : decode b_CS_count 39 = .ok (.getfield 83, 3) := by decide +kernel
theorem d_ct_42 : decode b_CS_count 42 = .ok (.invokestatic 176, 3) := by decide +kernel
theorem d_ct_45 : decode b_CS_count 45 = .ok (.ireturn, 1) := by decide +kernel
theorem k_ct_46 : sblk b_CS_count [(46, .bipush (-2), .int (-2))] := sblk_of (by decide +kernel)
theorem d_ct_48 : decode b_CS_count 48 = .ok (.ireturn, 1) := by decide +kernel
theorem ct_3 {n : Int32} (h : ¬ (n.toInt < 0 ∨ 2 < n.toInt)) : n = 0 ∨ n = 1 ∨ n = 2 := by
  simp only [← Int32.toInt_inj]
  simp only [show (0 : Int32).toInt = 0 by decide, show (1 : Int32).toInt = 1 by decide, show (2 : Int32).toInt = 2 by decide]
  omega
set_option maxHeartbeats 4000000 in
set_option maxRecDepth 20000 in
theorem e_CS_count (l : Launch) (D : va_G) (B : Nat) (H0 : Heap) (w : jW) (x : Nat) (V : Nat → Value) (n p t s : Int32) (hx : w.1 x = some (.inr (8, V))) (h1 : V 1 = .int t) (h3 : V 3 = .int p) (h4 : V 4 = .int s) : jMet l D B H0 y_CS_count b_CS_count 2 (some .int) 2 62 0 0 [.ref x, .int n] w (fun v w9 => v = some (.int (if n = 0 then p else if n = 1 then t else if n = 2 then dU s 6 else -2)) ∧ w9 = w) := by
  refine j_met (by decide) (Nat.le_of_ble_eq_true rfl) (fun g C Rm Y E => ?_)
  have hk := jkz w
  show JJ g w 0 [(0, .ref x), (1, .int n)] []
  refine j_blk 1 [(0, .ref x), (1, .int n)] [.int n] C k_ct_0 rfl ?_
  by_cases h : n.toInt < 0 ∨ 2 < n.toInt
  · refine j_tabOut (tgt := 46) C d_ct_1 h (by decide) ?_
    refine j_blk 48 [(0, .ref x), (1, .int n)] [.int (-2)] C k_ct_46 rfl ?_
    have n0 : ¬ n = 0 := fun e => by
      rw [e] at h
      exact absurd h (by decide)
    have n1 : ¬ n = 1 := fun e => by
      rw [e] at h
      exact absurd h (by decide)
    have n2 : ¬ n = 2 := fun e => by
      rw [e] at h
      exact absurd h (by decide)
    exact j_iret C Rm E d_ct_48 ⟨by rw [if_neg n0, if_neg n1, if_neg n2], rfl⟩ (jbnd hk.1 rfl) (jbnd hk.2 rfl)
  · rcases ct_3 h with rfl | rfl | rfl
    · refine j_tabIn (tgt := 28) C d_ct_1 (by decide) (by decide) rfl (by decide) ?_
      refine j_blk 29 [(0, .ref x), (1, .int 0)] [.ref x] C k_ct_28 rfl ?_
      refine j_get C d_ct_29 fg_CS_59 hx h3 ?_
      exact j_iret C Rm E d_ct_32 ⟨rfl, rfl⟩ (jbnd hk.1 rfl) (jbnd hk.2 rfl)
    · refine j_tabIn (tgt := 33) C d_ct_1 (by decide) (by decide) rfl (by decide) ?_
      refine j_blk 34 [(0, .ref x), (1, .int 1)] [.ref x] C k_ct_33 rfl ?_
      refine j_get C d_ct_34 fg_CS_51 hx h1 ?_
      exact j_iret C Rm E d_ct_37 ⟨rfl, rfl⟩ (jbnd hk.1 rfl) (jbnd hk.2 rfl)
    · refine j_tabIn (tgt := 38) C d_ct_1 (by decide) (by decide) rfl (by decide) ?_
      refine j_blk 39 [(0, .ref x), (1, .int 2)] [.ref x] C k_ct_38 rfl ?_
      refine j_get C d_ct_39 fg_CS_83 hx h4 ?_
      refine j_callS (As := [.int s]) C Rm Y [] (e_CS_unpacked l D B H0 w s) cl_CS_176 d_ct_42 rfl rfl (Nat.le_of_ble_eq_true rfl) ⟨by decide, by decide⟩ ⟨jroom hk.1 rfl, jroom hk.2 rfl⟩ (fun v5 w_3 pw_3 => ?_)
      obtain ⟨rfl, rfl⟩ := pw_3
      show JJ g w 45 [(0, .ref x), (1, .int 2)] [.int (dU s 6)]
      exact j_iret C Rm E d_ct_45 ⟨rfl, rfl⟩ (jbnd hk.1 rfl) (jbnd hk.2 rfl)
set_option maxHeartbeats 40000000 in
set_option maxRecDepth 100000 in
theorem q_count2 (l : Launch) (D : va_G) (B : Nat) (H0 : Heap) (ad : mAd) (A : mA) (hT : mTy A)  (w : Int) (hwr : -2147483648 ≤ w ∧ w ≤ 2147483647) (hI : mI A)  : mMet l D B H0 ad y_Mo_count b_Mo_count 2 (some .int) 920 23600 [vr 0 0, vi w] A (fun v9 A9 => ∃ z : Int, v9 = some (vi z) ∧ mTy A9 ∧ mEq nm0 A A9 ∧ (-2147483648 ≤ z ∧ z ≤ 2147483647) ∧ (mI A9) ∧ (w = 0 ∧ z = A 0 0 0 ∨ w = 1 ∧ z = A 0 0 22 ∨ w = 2 ∧ z = ((((A 8 0 0 * 10 + A 8 0 1) * 10 + A 8 0 2) * 10 + A 8 0 3) * 10 + A 8 0 4) * 10 + A 8 0 5 ∨ (w ≠ 0 ∧ w ≠ 1 ∧ w ≠ 2) ∧ z = -2)) := by
  refine m_met (by decide) rfl (fun g w0 C Rm Y E => ?_)
  have hE0 : mEq nm0 A A := mEq.rfl'
  show JM g D ad w0 A 0 [(0, vr 0 0), (1, vi w)] []
  have r0 : 0 ≤ A 0 0 0 ∧ A 0 0 0 ≤ 6 := hT 0 0 0
  refine m_blk 1 [(0, vr 0 0), (1, vi w)] [vi w] C f_q_count_0_1 rfl ?_
  refine m_if_ne (tgt := 11) C e_q_count_1 (by decide) (by omega) (fun c1 => ?_) (fun c1 => ?_)
  · refine m_blk 13 [(0, vr 0 0), (1, vi w)] [vi 1, vi w] C f_q_count_11_2 rfl ?_
    refine m_icmp_ne (tgt := 23) C e_q_count_13 (by decide) (by omega) (by decide) (fun c2 => ?_) (fun c2 => ?_)
    · refine m_blk 25 [(0, vr 0 0), (1, vi w)] [vi 2, vi w] C f_q_count_23_2 rfl ?_
      refine m_icmp_ne (tgt := 35) C e_q_count_25 (by decide) (by omega) (by decide) (fun c3 => ?_) (fun c3 => ?_)
      · refine m_blk 37 [(0, vr 0 0), (1, vi w)] [vi (-2)] C f_q_count_35_1 rfl ?_
        exact m_iret C Rm E e_q_count_37 ⟨(-2), rfl, hT, hE0, (by show -2147483648 ≤ (-2) ∧ (-2) ≤ 2147483647; omega), (hI.nmk hE0), Or.inr (Or.inr (Or.inr ⟨⟨by omega, by omega, by omega⟩, rfl⟩))⟩
      · refine m_blk 29 [(0, vr 0 0), (1, vi w)] [vr 0 0] C f_q_count_28_1 rfl ?_
        refine m_callV C Rm Y [] [] (q_startState l D B H0 ad _ hT) cl_Mo_358 rfl (by decide) rfl rfl e_q_count_29 rfl rfl rfl ⟨by decide, by decide⟩ ?_
        rintro v4 A5 ⟨z8, rfl, rfl, raw_hz_n7⟩
        have hz_n7 : 0 ≤ z8 ∧ z8 ≤ 999999 ∧ z8 = ((((A 8 0 0 * 10 + A 8 0 1) * 10 + A 8 0 2) * 10 + A 8 0 3) * 10 + A 8 0 4) * 10 + A 8 0 5 := raw_hz_n7
        clear raw_hz_n7
        show JM g D ad w0 A 32 [(0, vr 0 0), (1, vi w)] [vi z8]
        refine m_blk 37 [(0, vr 0 0), (1, vi w)] [vi z8] C f_q_count_32_1 rfl ?_
        exact m_iret C Rm E e_q_count_37 ⟨z8, rfl, hT, hE0, (by show -2147483648 ≤ z8 ∧ z8 ≤ 2147483647; omega), (hI.nmk hE0), Or.inr (Or.inr (Or.inl ⟨by omega, hz_n7.2.2⟩))⟩
    · refine m_blk 17 [(0, vr 0 0), (1, vi w)] [vr 0 0] C f_q_count_16_1 rfl ?_
      obtain ⟨x9, hx9⟩ : ∃ x, A 0 0 22 = x := ⟨_, rfl⟩
      have rx9 : 0 ≤ x9 ∧ x9 ≤ 120 := mrg hT hx9 rfl
      refine m_geti C e_q_count_17 fg_Mo_116 rfl (by decide) rfl x9 hx9 ?_
      refine m_blk 37 [(0, vr 0 0), (1, vi w)] [vi x9] C f_q_count_20_1 rfl ?_
      exact m_iret C Rm E e_q_count_37 ⟨x9, rfl, hT, hE0, (by show -2147483648 ≤ x9 ∧ x9 ≤ 2147483647; omega), (hI.nmk hE0), Or.inr (Or.inl ⟨by omega, hx9.symm⟩)⟩
  · refine m_blk 5 [(0, vr 0 0), (1, vi w)] [vr 0 0] C f_q_count_4_1 rfl ?_
    obtain ⟨x10, hx10⟩ : ∃ x, A 0 0 0 = x := ⟨_, rfl⟩
    have rx10 : 0 ≤ x10 ∧ x10 ≤ 6 := mrg hT hx10 rfl
    refine m_geti C e_q_count_5 fg_Mo_105 rfl (by decide) rfl x10 hx10 ?_
    refine m_blk 37 [(0, vr 0 0), (1, vi w)] [vi x10] C f_q_count_8_1 rfl ?_
    exact m_iret C Rm E e_q_count_37 ⟨x10, rfl, hT, hE0, (by show -2147483648 ≤ x10 ∧ x10 ≤ 2147483647; omega), (hI.nmk hE0), Or.inl ⟨by omega, hx10.symm⟩⟩
