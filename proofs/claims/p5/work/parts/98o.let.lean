/-! let, image, back exactly (own work, partly by program) -/
def onX (w w9 : jW) (x : Nat) (V : Nat → Value) : Prop := w9.1 x = some (.inr (8, V)) ∧ w9.2 = w.2 ∧ ∀ b, b ≠ x → w9.1 b = w.1 b
theorem onX1 {w w1 : jW} {x : Nat} {V : Nat → Value} (h : w1 = (va_up w.1 x (some (.inr (8, V))), w.2)) : onX w w1 x V := by
  rw [h]
  exact ⟨va_up_self _ _ _, rfl, fun b hb => va_up_ne _ _ hb⟩
theorem onX2 {w w1 w2 : jW} {x : Nat} {V V2 : Nat → Value} (h : onX w w1 x V) (k : w2 = (va_up w1.1 x (some (.inr (8, V2))), w1.2)) : onX w w2 x V2 := by
  rw [k]
  exact ⟨va_up_self _ _ _, h.2.1, fun b hb => (va_up_ne _ _ hb).trans (h.2.2 b hb)⟩
theorem vok_upd {G : tG} {F : List vT} {V : Nat → Value} {j : Nat} {v : Value} (h : ∀ (k : Nat) (t : vT), F[k]? = some t → vok G t (V k)) (hv : ∀ t, F[j]? = some t → vok G t v) : ∀ (k : Nat) (t : vT), F[k]? = some t → vok G t (updV V j v k) := fun k t hk => by
  show vok G t (if k = j then v else V k)
  by_cases e : k = j
  · rw [if_pos e]
    rw [e] at hk
    exact hv t hk
  · rw [if_neg e]
    exact h k t hk
/-- the four bits of a name, in the class's start -/
def nib (s : Int32) (j : Nat) : BitVec 32 := (s.toBitVec >>> ((5 - j) * 4)) &&& 15#32
theorem f15 (i : Nat) : (15#32).getLsbD i = decide (i < 4) := by
  by_cases h : i < 32
  · have : ∀ i, i < 32 → (15#32).getLsbD i = decide (i < 4) := by decide
    exact this i h
  · rw [BitVec.getLsbD_of_ge _ _ (by omega), decide_eq_false (by omega)]
theorem nb_1 (x v : BitVec 32) {c : Nat} (hc : c ≤ 20) : ((x &&& ~~~(15#32 <<< c) ||| v <<< c) >>> c) &&& 15#32 = v &&& 15#32 := by
  apply BitVec.eq_of_getLsbD_eq
  intro i hi
  simp only [BitVec.getLsbD_and, BitVec.getLsbD_ushiftRight, BitVec.getLsbD_or, BitVec.getLsbD_not, BitVec.getLsbD_shiftLeft, f15]
  by_cases h : i < 4
  · simp [h, show c + i < 32 by omega]
    rw [show decide (c + i < c) = false from decide_eq_false (by omega)]
    simp
  · simp [h]
theorem nb_2 (x v : BitVec 32) {a b : Nat} (ha : a ≤ 5) (hb : b ≤ 5) (hab : a ≠ b) (hv : ∀ i, 4 ≤ i → v.getLsbD i = false) : ((x &&& ~~~(15#32 <<< (a * 4)) ||| v <<< (a * 4)) >>> (b * 4)) &&& 15#32 = (x >>> (b * 4)) &&& 15#32 := by
  apply BitVec.eq_of_getLsbD_eq
  intro i hi
  simp only [BitVec.getLsbD_and, BitVec.getLsbD_ushiftRight, BitVec.getLsbD_or, BitVec.getLsbD_not, BitVec.getLsbD_shiftLeft, f15]
  by_cases h : i < 4
  · by_cases h2 : b * 4 + i < a * 4
    · simp [h, h2, show b * 4 + i < 32 by omega]
    · have h3 : 4 ≤ b * 4 + i - a * 4 := by omega
      simp [h, h2, hv _ h3, show ¬ b * 4 + i - a * 4 < 4 by omega, show b * 4 + i < 32 by omega]
  · simp [h]
theorem u_hi {u : Int32} (h0 : 0 ≤ u.toInt) (h1 : u.toInt < 10) : (∀ i, 4 ≤ i → u.toBitVec.getLsbD i = false) ∧ u.toBitVec &&& 15#32 = BitVec.ofInt 32 u.toInt := by
  have e : u = 0 ∨ u = 1 ∨ u = 2 ∨ u = 3 ∨ u = 4 ∨ u = 5 ∨ u = 6 ∨ u = 7 ∨ u = 8 ∨ u = 9 := by
    simp only [← Int32.toInt_inj]
    simp only [show (0 : Int32).toInt = 0 by decide, show (1 : Int32).toInt = 1 by decide, show (2 : Int32).toInt = 2 by decide, show (3 : Int32).toInt = 3 by decide, show (4 : Int32).toInt = 4 by decide, show (5 : Int32).toInt = 5 by decide, show (6 : Int32).toInt = 6 by decide, show (7 : Int32).toInt = 7 by decide, show (8 : Int32).toInt = 8 by decide, show (9 : Int32).toInt = 9 by decide]
    omega
  refine ⟨fun i hi => ?_, ?_⟩
  · have h2 : u.toBitVec.toNat < 16 := by
      rcases e with e | e | e | e | e | e | e | e | e | e <;> rw [e] <;> decide
    show u.toBitVec.toNat.testBit i = false
    exact Nat.testBit_lt_two_pow (Nat.lt_of_lt_of_le h2 (Nat.pow_le_pow_right (n := 2) (by decide) hi))
  · rcases e with e | e | e | e | e | e | e | e | e | e <;> rw [e] <;> decide
theorem n_six {n : Int32} (h0 : 0 ≤ n.toInt) (h1 : n.toInt < 6) : n = 0 ∨ n = 1 ∨ n = 2 ∨ n = 3 ∨ n = 4 ∨ n = 5 := by
  simp only [← Int32.toInt_inj]
  simp only [show (0 : Int32).toInt = 0 by decide, show (1 : Int32).toInt = 1 by decide, show (2 : Int32).toInt = 2 by decide, show (3 : Int32).toInt = 3 by decide, show (4 : Int32).toInt = 4 by decide, show (5 : Int32).toInt = 5 by decide]
  omega

theorem k_e_CS_shiftOf_0_5 : sblk b_CS_shiftOf [(0, .iconst 5, .int 5), (1, .iload_n 0, .null), (2, .isub, .null), (3, .iconst 4, .int 4), (4, .imul, .null)] := sblk_of (by decide +kernel)
theorem d_e_CS_shiftOf_5 : decode b_CS_shiftOf 5 = .ok (.ireturn, 1) := by decide +kernel
set_option maxHeartbeats 40000000 in
set_option maxRecDepth 100000 in
theorem e_CS_shiftOf (l : Launch) (D : va_G) (B : Nat) (H0 : Heap) (w : jW) (n : Int32) : jMet l D B H0 y_CS_shiftOf b_CS_shiftOf 1 (some .int) 0 0 0 0 [.int n] w (fun v w9 => v = some (.int ((5 - n) * 4)) ∧ w = w9) := by
  refine j_met (by decide) (Nat.le_of_ble_eq_true rfl) (fun g C Rm Y E => ?_)
  have hk := jkz w
  show JJ g w 0 [(0, .int n)] []
  refine j_blk 5 [(0, .int n)] [.int ((5 - n) * 4)] C k_e_CS_shiftOf_0_5 rfl ?_
  exact j_iret C Rm E d_e_CS_shiftOf_5 ⟨rfl, rfl⟩ (jbnd hk.1 rfl) (jbnd hk.2 rfl)

theorem k_e_CS_digitAt_0_9 : sblk b_CS_digitAt [(0, .iload_n 0, .null), (1, .iconst 5, .int 5), (2, .iload_n 1, .null), (3, .isub, .null), (4, .iconst 4, .int 4), (5, .imul, .null), (6, .iushr, .null), (7, .bipush 15, .int 15), (9, .iand, .null)] := sblk_of (by decide +kernel)
theorem d_e_CS_digitAt_10 : decode b_CS_digitAt 10 = .ok (.ireturn, 1) := by decide +kernel
set_option maxHeartbeats 40000000 in
set_option maxRecDepth 100000 in
theorem e_CS_digitAt (l : Launch) (D : va_G) (B : Nat) (H0 : Heap) (w : jW) (s : Int32) (n : Int32) : jMet l D B H0 y_CS_digitAt b_CS_digitAt 2 (some .int) 0 0 0 0 [.int s, .int n] w (fun v w9 => v = some (.int ((s.toUInt32 >>> (((5 - n) * 4).toUInt32 &&& Int32.toUInt32 31)).toInt32 &&& 15)) ∧ w = w9) := by
  refine j_met (by decide) (Nat.le_of_ble_eq_true rfl) (fun g C Rm Y E => ?_)
  have hk := jkz w
  show JJ g w 0 [(0, .int s), (1, .int n)] []
  refine j_blk 10 [(0, .int s), (1, .int n)] [.int ((s.toUInt32 >>> (((5 - n) * 4).toUInt32 &&& Int32.toUInt32 31)).toInt32 &&& 15)] C k_e_CS_digitAt_0_9 rfl ?_
  exact j_iret C Rm E d_e_CS_digitAt_10 ⟨rfl, rfl⟩ (jbnd hk.1 rfl) (jbnd hk.2 rfl)

theorem k_e_CS_withDigit_0_3 : sblk b_CS_withDigit [(0, .iload_n 0, .null), (1, .bipush 15, .int 15), (3, .iload_n 1, .null)] := sblk_of (by decide +kernel)
theorem d_e_CS_withDigit_4 : decode b_CS_withDigit 4 = .ok (.invokestatic 269, 3) := by decide +kernel
theorem k_e_CS_withDigit_7_6 : sblk b_CS_withDigit [(7, .ishl, .null), (8, .iconst (-1), .int (-1)), (9, .ixor, .null), (10, .iand, .null), (11, .iload_n 2, .null), (12, .iload_n 1, .null)] := sblk_of (by decide +kernel)
theorem d_e_CS_withDigit_13 : decode b_CS_withDigit 13 = .ok (.invokestatic 269, 3) := by decide +kernel
theorem k_e_CS_withDigit_16_2 : sblk b_CS_withDigit [(16, .ishl, .null), (17, .ior, .null)] := sblk_of (by decide +kernel)
theorem d_e_CS_withDigit_18 : decode b_CS_withDigit 18 = .ok (.ireturn, 1) := by decide +kernel
set_option maxHeartbeats 40000000 in
set_option maxRecDepth 100000 in
theorem e_CS_withDigit (l : Launch) (D : va_G) (B : Nat) (H0 : Heap) (w : jW) (s : Int32) (n : Int32) (u : Int32) : jMet l D B H0 y_CS_withDigit b_CS_withDigit 3 (some .int) 1 40 0 0 [.int s, .int n, .int u] w (fun v w9 => v = some (.int ((s &&& ((15 <<< (((5 - n) * 4) &&& 31)) ^^^ (-1))) ||| (u <<< (((5 - n) * 4) &&& 31)))) ∧ w = w9) := by
  refine j_met (by decide) (Nat.le_of_ble_eq_true rfl) (fun g C Rm Y E => ?_)
  have hk := jkz w
  show JJ g w 0 [(0, .int s), (1, .int n), (2, .int u)] []
  refine j_blk 4 [(0, .int s), (1, .int n), (2, .int u)] [.int n, .int 15, .int s] C k_e_CS_withDigit_0_3 rfl ?_
  refine j_callS (As := [.int n]) C Rm Y [.int 15, .int s] (e_CS_shiftOf l D B H0 w n) cl_CS_269 d_e_CS_withDigit_4 rfl rfl (Nat.le_of_ble_eq_true rfl) ⟨by decide, by decide⟩ ⟨jroom hk.1 rfl, jroom hk.2 rfl⟩ (fun v1 w_1 pw_1 => ?_)
  obtain ⟨rfl, rfl⟩ := pw_1
  show JJ g w 7 [(0, .int s), (1, .int n), (2, .int u)] [.int ((5 - n) * 4), .int 15, .int s]
  refine j_blk 13 [(0, .int s), (1, .int n), (2, .int u)] [.int n, .int u, .int (s &&& ((15 <<< (((5 - n) * 4) &&& 31)) ^^^ (-1)))] C k_e_CS_withDigit_7_6 rfl ?_
  refine j_callS (As := [.int n]) C Rm Y [.int u, .int (s &&& ((15 <<< (((5 - n) * 4) &&& 31)) ^^^ (-1)))] (e_CS_shiftOf l D B H0 w n) cl_CS_269 d_e_CS_withDigit_13 rfl rfl (Nat.le_of_ble_eq_true rfl) ⟨by decide, by decide⟩ ⟨jroom hk.1 rfl, jroom hk.2 rfl⟩ (fun v2 w_2 pw_2 => ?_)
  obtain ⟨rfl, rfl⟩ := pw_2
  show JJ g w 16 [(0, .int s), (1, .int n), (2, .int u)] [.int ((5 - n) * 4), .int u, .int (s &&& ((15 <<< (((5 - n) * 4) &&& 31)) ^^^ (-1)))]
  refine j_blk 18 [(0, .int s), (1, .int n), (2, .int u)] [.int ((s &&& ((15 <<< (((5 - n) * 4) &&& 31)) ^^^ (-1))) ||| (u <<< (((5 - n) * 4) &&& 31)))] C k_e_CS_withDigit_16_2 rfl ?_
  exact j_iret C Rm E d_e_CS_withDigit_18 ⟨rfl, rfl⟩ (jbnd hk.1 rfl) (jbnd hk.2 rfl)

theorem k_e_CS_let_0_1 : sblk b_CS_let [(0, .iload_n 1, .null)] := sblk_of (by decide +kernel)
theorem d_e_CS_let_1 : decode b_CS_let 1 = .ok (.invokestatic 77, 3) := by decide +kernel
theorem d_e_CS_let_4 : decode b_CS_let 4 = .ok (.ifCond .eq 10, 3) := by decide +kernel
theorem k_e_CS_let_14_1 : sblk b_CS_let [(14, .bipush (-2), .int (-2))] := sblk_of (by decide +kernel)
theorem d_e_CS_let_16 : decode b_CS_let 16 = .ok (.ireturn, 1) := by decide +kernel
theorem k_e_CS_let_7_1 : sblk b_CS_let [(7, .iload_n 2, .null)] := sblk_of (by decide +kernel)
theorem d_e_CS_let_8 : decode b_CS_let 8 = .ok (.invokestatic 80, 3) := by decide +kernel
theorem d_e_CS_let_11 : decode b_CS_let 11 = .ok (.ifCond .ne 6, 3) := by decide +kernel
theorem k_e_CS_let_17_1 : sblk b_CS_let [(17, .aload_n 0, .null)] := sblk_of (by decide +kernel)
theorem d_e_CS_let_18 : decode b_CS_let 18 = .ok (.getfield 83, 3) := by decide +kernel
theorem k_e_CS_let_21_1 : sblk b_CS_let [(21, .iload_n 1, .null)] := sblk_of (by decide +kernel)
theorem d_e_CS_let_22 : decode b_CS_let 22 = .ok (.invokestatic 86, 3) := by decide +kernel
theorem k_e_CS_let_25_3 : sblk b_CS_let [(25, .istore_n 3, .null), (26, .aload_n 0, .null), (27, .aload_n 0, .null)] := sblk_of (by decide +kernel)
theorem d_e_CS_let_28 : decode b_CS_let 28 = .ok (.getfield 83, 3) := by decide +kernel
theorem k_e_CS_let_31_2 : sblk b_CS_let [(31, .iload_n 1, .null), (32, .iload_n 2, .null)] := sblk_of (by decide +kernel)
theorem d_e_CS_let_33 : decode b_CS_let 33 = .ok (.invokestatic 90, 3) := by decide +kernel
theorem d_e_CS_let_36 : decode b_CS_let 36 = .ok (.putfield 83, 3) := by decide +kernel
theorem k_e_CS_let_39_1 : sblk b_CS_let [(39, .iload_n 3, .null)] := sblk_of (by decide +kernel)
theorem d_e_CS_let_40 : decode b_CS_let 40 = .ok (.ireturn, 1) := by decide +kernel
set_option maxHeartbeats 40000000 in
set_option maxRecDepth 100000 in
theorem e_CS_let (l : Launch) (D : va_G) (B : Nat) (H0 : Heap) (w : jW) (x : Nat) (V : Nat → Value) (n u s : Int32) (hx : w.1 x = some (.inr (8, V))) (h4 : V 4 = .int s) : jMet l D B H0 y_CS_let b_CS_let 4 (some .int) 3 160 0 0 [.ref x, .int n, .int u] w (fun v w9 => (¬ ((0 ≤ n.toInt ∧ n.toInt < 6) ∧ (0 ≤ u.toInt ∧ u.toInt < 10)) ∧ v = some (.int (-2)) ∧ w9 = w) ∨ (((0 ≤ n.toInt ∧ n.toInt < 6) ∧ (0 ≤ u.toInt ∧ u.toInt < 10)) ∧ v = some (.int ((s.toUInt32 >>> (((5 - n) * 4).toUInt32 &&& Int32.toUInt32 31)).toInt32 &&& 15)) ∧ onX w w9 x (updV V 4 (.int ((s &&& ((15 <<< (((5 - n) * 4) &&& 31)) ^^^ (-1))) ||| (u <<< (((5 - n) * 4) &&& 31))))))) := by
  refine j_met (by decide) (Nat.le_of_ble_eq_true rfl) (fun g C Rm Y E => ?_)
  have hk := jkz w
  show JJ g w 0 [(0, .ref x), (1, .int n), (2, .int u)] []
  refine j_blk 1 [(0, .ref x), (1, .int n), (2, .int u)] [.int n] C k_e_CS_let_0_1 rfl ?_
  refine j_callS (As := [.int n]) C Rm Y [] (c_CS_isName l D B H0 w n) cl_CS_77 d_e_CS_let_1 rfl rfl (Nat.le_of_ble_eq_true rfl) ⟨by decide, by decide⟩ ⟨jroom hk.1 rfl, jroom hk.2 rfl⟩ (fun v1 w_1 pw_1 => ?_)
  obtain ⟨rfl, rfl⟩ := pw_1
  show JJ g w 4 [(0, .ref x), (1, .int n), (2, .int u)] [.int (if 0 ≤ n.toInt ∧ n.toInt < 6 then 1 else 0)]
  refine j_if_eq (tgt := 14) C d_e_CS_let_4 (by decide) (fun c2 => ?_) (fun c2 => ?_)
  · have c2 := jbz.mp c2
    refine j_blk 16 [(0, .ref x), (1, .int n), (2, .int u)] [.int (-2)] C k_e_CS_let_14_1 rfl ?_
    exact j_iret C Rm E d_e_CS_let_16 (Or.inl ⟨fun hq => absurd hq (by (try simp only [jlt, jle, jeq, kt_0, kt_1, kt_2, kt_3, kt_4, kt_5, kt_6, kt_7, kt_8, kt_9, kt_10, kt_11, kt_12, kt_13, kt_15, kt_16, kt_19, kt_20, kt_24, kt_25, kt_31, kt_32, kt_40, kt_50, kt_60, kt_63, kt_100, kt_120, kt_255, kt_300, kt_999999, kt_1000000, kt_m1, kt_m2, kt_m3, kt_m4, kt_m6, kt_m7, kt_m11, kt_m12, kt_m13, kt_m14, kt_m100] at c2); (try simp only [kt_0, kt_1, kt_2, kt_3, kt_4, kt_5, kt_6, kt_7, kt_8, kt_9, kt_10, kt_11, kt_12, kt_13, kt_15, kt_16, kt_19, kt_20, kt_24, kt_25, kt_31, kt_32, kt_40, kt_50, kt_60, kt_63, kt_100, kt_120, kt_255, kt_300, kt_999999, kt_1000000, kt_m1, kt_m2, kt_m3, kt_m4, kt_m6, kt_m7, kt_m11, kt_m12, kt_m13, kt_m14, kt_m100]); omega), rfl, rfl⟩) (jbnd hk.1 rfl) (jbnd hk.2 rfl)
  · have c2 := jbo.mp c2
    refine j_blk 8 [(0, .ref x), (1, .int n), (2, .int u)] [.int u] C k_e_CS_let_7_1 rfl ?_
    refine j_callS (As := [.int u]) C Rm Y [] (c_CS_isValue l D B H0 w u) cl_CS_80 d_e_CS_let_8 rfl rfl (Nat.le_of_ble_eq_true rfl) ⟨by decide, by decide⟩ ⟨jroom hk.1 rfl, jroom hk.2 rfl⟩ (fun v3 w_2 pw_2 => ?_)
    obtain ⟨rfl, rfl⟩ := pw_2
    show JJ g w 11 [(0, .ref x), (1, .int n), (2, .int u)] [.int (if 0 ≤ u.toInt ∧ u.toInt < 10 then 1 else 0)]
    refine j_if_ne (tgt := 17) C d_e_CS_let_11 (by decide) (fun c4 => ?_) (fun c4 => ?_)
    · have c4 := jbo.mp c4
      refine j_blk 18 [(0, .ref x), (1, .int n), (2, .int u)] [.ref x] C k_e_CS_let_17_1 rfl ?_
      refine j_get C d_e_CS_let_18 fg_CS_83 hx h4 ?_
      refine j_blk 22 [(0, .ref x), (1, .int n), (2, .int u)] [.int n, .int s] C k_e_CS_let_21_1 rfl ?_
      refine j_callS (As := [.int s, .int n]) C Rm Y [] (e_CS_digitAt l D B H0 w s n) cl_CS_86 d_e_CS_let_22 rfl rfl (Nat.le_of_ble_eq_true rfl) ⟨by decide, by decide⟩ ⟨jroom hk.1 rfl, jroom hk.2 rfl⟩ (fun v5 w_3 pw_3 => ?_)
      obtain ⟨rfl, rfl⟩ := pw_3
      show JJ g w 25 [(0, .ref x), (1, .int n), (2, .int u)] [.int ((s.toUInt32 >>> (((5 - n) * 4).toUInt32 &&& Int32.toUInt32 31)).toInt32 &&& 15)]
      refine j_blk 28 [(3, .int ((s.toUInt32 >>> (((5 - n) * 4).toUInt32 &&& Int32.toUInt32 31)).toInt32 &&& 15)), (0, .ref x), (1, .int n), (2, .int u)] [.ref x, .ref x] C k_e_CS_let_25_3 rfl ?_
      refine j_get C d_e_CS_let_28 fg_CS_83 hx h4 ?_
      refine j_blk 33 [(3, .int ((s.toUInt32 >>> (((5 - n) * 4).toUInt32 &&& Int32.toUInt32 31)).toInt32 &&& 15)), (0, .ref x), (1, .int n), (2, .int u)] [.int u, .int n, .int s, .ref x] C k_e_CS_let_31_2 rfl ?_
      refine j_callS (As := [.int s, .int n, .int u]) C Rm Y [.ref x] (e_CS_withDigit l D B H0 w s n u) cl_CS_90 d_e_CS_let_33 rfl rfl (Nat.le_of_ble_eq_true rfl) ⟨by decide, by decide⟩ ⟨jroom hk.1 rfl, jroom hk.2 rfl⟩ (fun v6 w_4 pw_4 => ?_)
      obtain ⟨rfl, rfl⟩ := pw_4
      show JJ g w 36 [(3, .int ((s.toUInt32 >>> (((5 - n) * 4).toUInt32 &&& Int32.toUInt32 31)).toInt32 &&& 15)), (0, .ref x), (1, .int n), (2, .int u)] [.int ((s &&& ((15 <<< (((5 - n) * 4) &&& 31)) ^^^ (-1))) ||| (u <<< (((5 - n) * 4) &&& 31))), .ref x]
      refine j_put C d_e_CS_let_36 fp_CS_83 hx rfl rfl ?_
      refine jnv (fun w_5 ew_5 => ?_)
      have m_x_w_5 : w_5.1 x = some (.inr (8, (updV V 4 (.int ((s &&& ((15 <<< (((5 - n) * 4) &&& 31)) ^^^ (-1))) ||| (u <<< (((5 - n) * 4) &&& 31))))))) := jus ew_5
      have hk_w_5 := jk0 ew_5 hk
      refine j_blk 40 [(3, .int ((s.toUInt32 >>> (((5 - n) * 4).toUInt32 &&& Int32.toUInt32 31)).toInt32 &&& 15)), (0, .ref x), (1, .int n), (2, .int u)] [.int ((s.toUInt32 >>> (((5 - n) * 4).toUInt32 &&& Int32.toUInt32 31)).toInt32 &&& 15)] C k_e_CS_let_39_1 rfl ?_
      exact j_iret C Rm E d_e_CS_let_40 (Or.inr ⟨⟨(by (try simp only [jlt, jle, jeq, kt_0, kt_1, kt_2, kt_3, kt_4, kt_5, kt_6, kt_7, kt_8, kt_9, kt_10, kt_11, kt_12, kt_13, kt_15, kt_16, kt_19, kt_20, kt_24, kt_25, kt_31, kt_32, kt_40, kt_50, kt_60, kt_63, kt_100, kt_120, kt_255, kt_300, kt_999999, kt_1000000, kt_m1, kt_m2, kt_m3, kt_m4, kt_m6, kt_m7, kt_m11, kt_m12, kt_m13, kt_m14, kt_m100] at c2); (try simp only [jlt, jle, jeq, kt_0, kt_1, kt_2, kt_3, kt_4, kt_5, kt_6, kt_7, kt_8, kt_9, kt_10, kt_11, kt_12, kt_13, kt_15, kt_16, kt_19, kt_20, kt_24, kt_25, kt_31, kt_32, kt_40, kt_50, kt_60, kt_63, kt_100, kt_120, kt_255, kt_300, kt_999999, kt_1000000, kt_m1, kt_m2, kt_m3, kt_m4, kt_m6, kt_m7, kt_m11, kt_m12, kt_m13, kt_m14, kt_m100] at c4); show 0 ≤ n.toInt ∧ n.toInt < 6; (try simp only [kt_0, kt_1, kt_2, kt_3, kt_4, kt_5, kt_6, kt_7, kt_8, kt_9, kt_10, kt_11, kt_12, kt_13, kt_15, kt_16, kt_19, kt_20, kt_24, kt_25, kt_31, kt_32, kt_40, kt_50, kt_60, kt_63, kt_100, kt_120, kt_255, kt_300, kt_999999, kt_1000000, kt_m1, kt_m2, kt_m3, kt_m4, kt_m6, kt_m7, kt_m11, kt_m12, kt_m13, kt_m14, kt_m100]); omega), (by (try simp only [jlt, jle, jeq, kt_0, kt_1, kt_2, kt_3, kt_4, kt_5, kt_6, kt_7, kt_8, kt_9, kt_10, kt_11, kt_12, kt_13, kt_15, kt_16, kt_19, kt_20, kt_24, kt_25, kt_31, kt_32, kt_40, kt_50, kt_60, kt_63, kt_100, kt_120, kt_255, kt_300, kt_999999, kt_1000000, kt_m1, kt_m2, kt_m3, kt_m4, kt_m6, kt_m7, kt_m11, kt_m12, kt_m13, kt_m14, kt_m100] at c2); (try simp only [jlt, jle, jeq, kt_0, kt_1, kt_2, kt_3, kt_4, kt_5, kt_6, kt_7, kt_8, kt_9, kt_10, kt_11, kt_12, kt_13, kt_15, kt_16, kt_19, kt_20, kt_24, kt_25, kt_31, kt_32, kt_40, kt_50, kt_60, kt_63, kt_100, kt_120, kt_255, kt_300, kt_999999, kt_1000000, kt_m1, kt_m2, kt_m3, kt_m4, kt_m6, kt_m7, kt_m11, kt_m12, kt_m13, kt_m14, kt_m100] at c4); show 0 ≤ u.toInt ∧ u.toInt < 10; (try simp only [kt_0, kt_1, kt_2, kt_3, kt_4, kt_5, kt_6, kt_7, kt_8, kt_9, kt_10, kt_11, kt_12, kt_13, kt_15, kt_16, kt_19, kt_20, kt_24, kt_25, kt_31, kt_32, kt_40, kt_50, kt_60, kt_63, kt_100, kt_120, kt_255, kt_300, kt_999999, kt_1000000, kt_m1, kt_m2, kt_m3, kt_m4, kt_m6, kt_m7, kt_m11, kt_m12, kt_m13, kt_m14, kt_m100]); omega)⟩, rfl, onX1 ew_5⟩) (jbnd hk_w_5.1 rfl) (jbnd hk_w_5.2 rfl)
    · have c4 := jbz.mp c4
      refine j_blk 16 [(0, .ref x), (1, .int n), (2, .int u)] [.int (-2)] C k_e_CS_let_14_1 rfl ?_
      exact j_iret C Rm E d_e_CS_let_16 (Or.inl ⟨fun hq => absurd hq (by (try simp only [jlt, jle, jeq, kt_0, kt_1, kt_2, kt_3, kt_4, kt_5, kt_6, kt_7, kt_8, kt_9, kt_10, kt_11, kt_12, kt_13, kt_15, kt_16, kt_19, kt_20, kt_24, kt_25, kt_31, kt_32, kt_40, kt_50, kt_60, kt_63, kt_100, kt_120, kt_255, kt_300, kt_999999, kt_1000000, kt_m1, kt_m2, kt_m3, kt_m4, kt_m6, kt_m7, kt_m11, kt_m12, kt_m13, kt_m14, kt_m100] at c2); (try simp only [jlt, jle, jeq, kt_0, kt_1, kt_2, kt_3, kt_4, kt_5, kt_6, kt_7, kt_8, kt_9, kt_10, kt_11, kt_12, kt_13, kt_15, kt_16, kt_19, kt_20, kt_24, kt_25, kt_31, kt_32, kt_40, kt_50, kt_60, kt_63, kt_100, kt_120, kt_255, kt_300, kt_999999, kt_1000000, kt_m1, kt_m2, kt_m3, kt_m4, kt_m6, kt_m7, kt_m11, kt_m12, kt_m13, kt_m14, kt_m100] at c4); (try simp only [kt_0, kt_1, kt_2, kt_3, kt_4, kt_5, kt_6, kt_7, kt_8, kt_9, kt_10, kt_11, kt_12, kt_13, kt_15, kt_16, kt_19, kt_20, kt_24, kt_25, kt_31, kt_32, kt_40, kt_50, kt_60, kt_63, kt_100, kt_120, kt_255, kt_300, kt_999999, kt_1000000, kt_m1, kt_m2, kt_m3, kt_m4, kt_m6, kt_m7, kt_m11, kt_m12, kt_m13, kt_m14, kt_m100]); omega), rfl, rfl⟩) (jbnd hk.1 rfl) (jbnd hk.2 rfl)

theorem k_e_CS_image_0_2 : sblk b_CS_image [(0, .aload_n 0, .null), (1, .iconst 1, .int 1)] := sblk_of (by decide +kernel)
theorem d_e_CS_image_2 : decode b_CS_image 2 = .ok (.putfield 234, 3) := by decide +kernel
theorem k_e_CS_image_5_2 : sblk b_CS_image [(5, .aload_n 0, .null), (6, .aload_n 0, .null)] := sblk_of (by decide +kernel)
theorem d_e_CS_image_7 : decode b_CS_image 7 = .ok (.getfield 83, 3) := by decide +kernel
theorem d_e_CS_image_10 : decode b_CS_image 10 = .ok (.putfield 237, 3) := by decide +kernel
theorem k_e_CS_image_13_2 : sblk b_CS_image [(13, .aload_n 0, .null), (14, .aload_n 0, .null)] := sblk_of (by decide +kernel)
theorem d_e_CS_image_15 : decode b_CS_image 15 = .ok (.getfield 59, 3) := by decide +kernel
theorem d_e_CS_image_18 : decode b_CS_image 18 = .ok (.putfield 240, 3) := by decide +kernel
theorem k_e_CS_image_21_1 : sblk b_CS_image [(21, .aload_n 0, .null)] := sblk_of (by decide +kernel)
theorem d_e_CS_image_22 : decode b_CS_image 22 = .ok (.getfield 59, 3) := by decide +kernel
theorem d_e_CS_image_25 : decode b_CS_image 25 = .ok (.ireturn, 1) := by decide +kernel
set_option maxHeartbeats 40000000 in
set_option maxRecDepth 100000 in
theorem e_CS_image (l : Launch) (D : va_G) (B : Nat) (H0 : Heap) (w : jW) (x : Nat) (V : Nat → Value) (p s : Int32) (hx : w.1 x = some (.inr (8, V))) (h3 : V 3 = .int p) (h4 : V 4 = .int s) : jMet l D B H0 y_CS_image b_CS_image 1 (some .int) 0 0 0 0 [.ref x] w (fun v w9 => v = some (.int p) ∧ onX w w9 x (updV (updV (updV V 5 (.int 1)) 6 (.int s)) 7 (.int p))) := by
  refine j_met (by decide) (Nat.le_of_ble_eq_true rfl) (fun g C Rm Y E => ?_)
  have hk := jkz w
  show JJ g w 0 [(0, .ref x)] []
  refine j_blk 2 [(0, .ref x)] [.int 1, .ref x] C k_e_CS_image_0_2 rfl ?_
  refine j_put C d_e_CS_image_2 fp_CS_234 hx rfl rfl ?_
  refine jnv (fun w_1 ew_1 => ?_)
  have m_x_w_1 : w_1.1 x = some (.inr (8, (updV V 5 (.int 1)))) := jus ew_1
  have hk_w_1 := jk0 ew_1 hk
  refine j_blk 7 [(0, .ref x)] [.ref x, .ref x] C k_e_CS_image_5_2 rfl ?_
  refine j_get C d_e_CS_image_7 fg_CS_83 m_x_w_1 h4 ?_
  refine j_put C d_e_CS_image_10 fp_CS_237 m_x_w_1 rfl rfl ?_
  refine jnv (fun w_2 ew_2 => ?_)
  have m_x_w_2 : w_2.1 x = some (.inr (8, (updV (updV V 5 (.int 1)) 6 (.int s)))) := jus ew_2
  have hk_w_2 := jk0 ew_2 hk_w_1
  refine j_blk 15 [(0, .ref x)] [.ref x, .ref x] C k_e_CS_image_13_2 rfl ?_
  refine j_get C d_e_CS_image_15 fg_CS_59 m_x_w_2 h3 ?_
  refine j_put C d_e_CS_image_18 fp_CS_240 m_x_w_2 rfl rfl ?_
  refine jnv (fun w_3 ew_3 => ?_)
  have m_x_w_3 : w_3.1 x = some (.inr (8, (updV (updV (updV V 5 (.int 1)) 6 (.int s)) 7 (.int p)))) := jus ew_3
  have hk_w_3 := jk0 ew_3 hk_w_2
  refine j_blk 22 [(0, .ref x)] [.ref x] C k_e_CS_image_21_1 rfl ?_
  refine j_get C d_e_CS_image_22 fg_CS_59 m_x_w_3 h3 ?_
  exact j_iret C Rm E d_e_CS_image_25 ⟨rfl, onX2 (onX2 (onX1 ew_1) ew_2) ew_3⟩ (jbnd hk_w_3.1 rfl) (jbnd hk_w_3.2 rfl)

theorem k_e_CS_back_0_1 : sblk b_CS_back [(0, .aload_n 0, .null)] := sblk_of (by decide +kernel)
theorem d_e_CS_back_1 : decode b_CS_back 1 = .ok (.getfield 234, 3) := by decide +kernel
theorem d_e_CS_back_4 : decode b_CS_back 4 = .ok (.ifCond .ne 6, 3) := by decide +kernel
theorem k_e_CS_back_10_2 : sblk b_CS_back [(10, .aload_n 0, .null), (11, .aload_n 0, .null)] := sblk_of (by decide +kernel)
theorem d_e_CS_back_12 : decode b_CS_back 12 = .ok (.getfield 237, 3) := by decide +kernel
theorem d_e_CS_back_15 : decode b_CS_back 15 = .ok (.putfield 83, 3) := by decide +kernel
theorem k_e_CS_back_18_2 : sblk b_CS_back [(18, .aload_n 0, .null), (19, .aload_n 0, .null)] := sblk_of (by decide +kernel)
theorem d_e_CS_back_20 : decode b_CS_back 20 = .ok (.getfield 240, 3) := by decide +kernel
theorem d_e_CS_back_23 : decode b_CS_back 23 = .ok (.putfield 59, 3) := by decide +kernel
theorem k_e_CS_back_26_1 : sblk b_CS_back [(26, .aload_n 0, .null)] := sblk_of (by decide +kernel)
theorem d_e_CS_back_27 : decode b_CS_back 27 = .ok (.getfield 59, 3) := by decide +kernel
theorem d_e_CS_back_30 : decode b_CS_back 30 = .ok (.ireturn, 1) := by decide +kernel
theorem k_e_CS_back_7_1 : sblk b_CS_back [(7, .bipush (-3), .int (-3))] := sblk_of (by decide +kernel)
theorem d_e_CS_back_9 : decode b_CS_back 9 = .ok (.ireturn, 1) := by decide +kernel
set_option maxHeartbeats 40000000 in
set_option maxRecDepth 100000 in
theorem e_CS_back (l : Launch) (D : va_G) (B : Nat) (H0 : Heap) (w : jW) (x : Nat) (V : Nat → Value) (k s p : Int32) (hx : w.1 x = some (.inr (8, V))) (h5 : V 5 = .int k) (h6 : V 6 = .int s) (h7 : V 7 = .int p) : jMet l D B H0 y_CS_back b_CS_back 1 (some .int) 0 0 0 0 [.ref x] w (fun v w9 => (k = 0 ∧ v = some (.int (-3)) ∧ w9 = w) ∨ (k ≠ 0 ∧ v = some (.int p) ∧ onX w w9 x (updV (updV V 4 (.int s)) 3 (.int p)))) := by
  refine j_met (by decide) (Nat.le_of_ble_eq_true rfl) (fun g C Rm Y E => ?_)
  have hk := jkz w
  show JJ g w 0 [(0, .ref x)] []
  refine j_blk 1 [(0, .ref x)] [.ref x] C k_e_CS_back_0_1 rfl ?_
  refine j_get C d_e_CS_back_1 fg_CS_234 hx h5 ?_
  refine j_if_ne (tgt := 10) C d_e_CS_back_4 (by decide) (fun c1 => ?_) (fun c1 => ?_)
  · refine j_blk 12 [(0, .ref x)] [.ref x, .ref x] C k_e_CS_back_10_2 rfl ?_
    refine j_get C d_e_CS_back_12 fg_CS_237 hx h6 ?_
    refine j_put C d_e_CS_back_15 fp_CS_83 hx rfl rfl ?_
    refine jnv (fun w_1 ew_1 => ?_)
    have m_x_w_1 : w_1.1 x = some (.inr (8, (updV V 4 (.int s)))) := jus ew_1
    have hk_w_1 := jk0 ew_1 hk
    refine j_blk 20 [(0, .ref x)] [.ref x, .ref x] C k_e_CS_back_18_2 rfl ?_
    refine j_get C d_e_CS_back_20 fg_CS_240 m_x_w_1 h7 ?_
    refine j_put C d_e_CS_back_23 fp_CS_59 m_x_w_1 rfl rfl ?_
    refine jnv (fun w_2 ew_2 => ?_)
    have m_x_w_2 : w_2.1 x = some (.inr (8, (updV (updV V 4 (.int s)) 3 (.int p)))) := jus ew_2
    have hk_w_2 := jk0 ew_2 hk_w_1
    refine j_blk 27 [(0, .ref x)] [.ref x] C k_e_CS_back_26_1 rfl ?_
    refine j_get C d_e_CS_back_27 fg_CS_59 m_x_w_2 rfl ?_
    exact j_iret C Rm E d_e_CS_back_30 (Or.inr ⟨c1, rfl, onX2 (onX1 ew_1) ew_2⟩) (jbnd hk_w_2.1 rfl) (jbnd hk_w_2.2 rfl)
  · refine j_blk 9 [(0, .ref x)] [.int (-3)] C k_e_CS_back_7_1 rfl ?_
    exact j_iret C Rm E d_e_CS_back_9 (Or.inl ⟨c1, rfl, rfl⟩) (jbnd hk.1 rfl) (jbnd hk.2 rfl)

theorem dig_ok {s n : Int32} (h0 : 0 ≤ n.toInt) (h1 : n.toInt < 6) : Int32.toBitVec ((s.toUInt32 >>> (((5 - n) * 4).toUInt32 &&& Int32.toUInt32 31)).toInt32 &&& 15) = nib s n.toInt.toNat := by
  rcases n_six h0 h1 with e | e | e | e | e | e <;> subst e <;> rfl
theorem wid_ok {s n u : Int32} (h0 : 0 ≤ n.toInt) (h1 : n.toInt < 6) : Int32.toBitVec ((s &&& ((15 <<< (((5 - n) * 4) &&& 31)) ^^^ (-1))) ||| (u <<< (((5 - n) * 4) &&& 31))) = (s.toBitVec &&& ~~~(15#32 <<< ((5 - n.toInt.toNat) * 4)) ||| u.toBitVec <<< ((5 - n.toInt.toNat) * 4)) := by
  rcases n_six h0 h1 with e | e | e | e | e | e <;> subst e <;> rfl
theorem wid_nib {s n u : Int32} (h0 : 0 ≤ n.toInt) (h1 : n.toInt < 6) (u0 : 0 ≤ u.toInt) (u1 : u.toInt < 10) {j : Nat} (hj : j < 6) : nib ((s &&& ((15 <<< (((5 - n) * 4) &&& 31)) ^^^ (-1))) ||| (u <<< (((5 - n) * 4) &&& 31))) j = if j = n.toInt.toNat then BitVec.ofInt 32 u.toInt else nib s j := by
  obtain ⟨k1, k2⟩ := u_hi u0 u1
  unfold nib
  rw [wid_ok h0 h1]
  by_cases e : j = n.toInt.toNat
  · rw [if_pos e, e, nb_1 _ _ (by omega), k2]
  · rw [if_neg e, nb_2 _ _ (by omega) (by omega) (by omega) k1]
