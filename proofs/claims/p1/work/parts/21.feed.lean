/-! calls that need no program, on fresh objects (own work, by program) -/
def an_feed (n a b c d e : Int32) : Int32 := if (1 ≤ n.toInt ∧ n.toInt ≤ 5) ∧ (0 ≤ a.toInt ∧ a.toInt ≤ 255) ∧ (0 ≤ b.toInt ∧ b.toInt ≤ 255) ∧ (0 ≤ c.toInt ∧ c.toInt ≤ 255) ∧ (0 ≤ d.toInt ∧ d.toInt ≤ 255) ∧ (0 ≤ e.toInt ∧ e.toInt ≤ 255) then n else -2
def an_let (n v : Int32) : Int32 := if (0 ≤ n.toInt ∧ n.toInt < 6) ∧ (0 ≤ v.toInt ∧ v.toInt < 10) then 0 else -2
def an_count (n : Int32) : Int32 := if 0 ≤ n.toInt ∧ n.toInt ≤ 2 then 0 else -2
def an_sheet (s k n : Int32) : Int32 := if (0 ≤ s.toInt ∧ s.toInt < 4) ∧ (-1 ≤ k.toInt ∧ k.toInt ≤ 1) ∧ (k.toInt = -1 ∨ n.toInt ≤ 40) then (if k.toInt = -1 ∨ 0 ≤ n.toInt then 1 else -14) else -2
def an_cell (s : Int32) : Int32 := if 0 ≤ s.toInt ∧ s.toInt < 4 then -11 else -2
def an_copy (s o : Int32) : Int32 := if (0 ≤ s.toInt ∧ s.toInt < 4) ∧ (0 ≤ o.toInt ∧ o.toInt < 4) then -11 else -2
theorem jip {p : Prop} [Decidable p] {a b : Int32} (h : p) : some (Value.int a) = some (Value.int (if p then a else b)) := by rw [if_pos h]
theorem jin_ {p : Prop} [Decidable p] {a b : Int32} (h : ¬ p) : some (Value.int b) = some (Value.int (if p then a else b)) := by rw [if_neg h]
def fxS (D : va_G) (w : jW) (F : Nat → Option Nat) (q : Nat) : Prop := ∀ j, j < 4 → ∃ (s e : Nat) (Vs : Nat → Value), F j = some s ∧ w.1 s = some (.inr (5, Vs)) ∧ Vs 0 = .ref e ∧ Vs 1 = .int (-1) ∧ Vs 2 = .int 0 ∧ w.1 e = some (aI D 40 (fun _ => 0)) ∧ s < q ∧ e < q
theorem jcl {x : Int32} {n : Nat} (h0 : 0 ≤ x.toInt) (h1 : x.toInt < n) : Int32.toNatClampNeg x < n := by show x.toInt.toNat < n; omega
theorem k_c_CS_append_0_1 : sblk b_CS_append [(0, .aload_n 0, .null)] := sblk_of (by decide +kernel)
theorem d_c_CS_append_1 : decode b_CS_append 1 = .ok (.getfield 51, 3) := by decide +kernel
theorem k_c_CS_append_4_1 : sblk b_CS_append [(4, .bipush 120, .int 120)] := sblk_of (by decide +kernel)
theorem d_c_CS_append_6 : decode b_CS_append 6 = .ok (.if_icmp .ge 23, 3) := by decide +kernel
theorem k_c_CS_append_9_1 : sblk b_CS_append [(9, .aload_n 0, .null)] := sblk_of (by decide +kernel)
theorem d_c_CS_append_10 : decode b_CS_append 10 = .ok (.getfield 9, 3) := by decide +kernel
theorem k_c_CS_append_13_1 : sblk b_CS_append [(13, .aload_n 0, .null)] := sblk_of (by decide +kernel)
theorem d_c_CS_append_14 : decode b_CS_append 14 = .ok (.getfield 51, 3) := by decide +kernel
theorem k_c_CS_append_17_1 : sblk b_CS_append [(17, .iload_n 1, .null)] := sblk_of (by decide +kernel)
theorem d_c_CS_append_18 : decode b_CS_append 18 = .ok (.iastore, 1) := by decide +kernel
theorem k_c_CS_append_19_2 : sblk b_CS_append [(19, .aload_n 0, .null), (20, .dup, .null)] := sblk_of (by decide +kernel)
theorem d_c_CS_append_21 : decode b_CS_append 21 = .ok (.getfield 51, 3) := by decide +kernel
theorem k_c_CS_append_24_2 : sblk b_CS_append [(24, .iconst 1, .int 1), (25, .iadd, .null)] := sblk_of (by decide +kernel)
theorem d_c_CS_append_26 : decode b_CS_append 26 = .ok (.putfield 51, 3) := by decide +kernel
theorem d_c_CS_append_29 : decode b_CS_append 29 = .ok (.return_, 1) := by decide +kernel
set_option maxHeartbeats 40000000 in
set_option maxRecDepth 100000 in
theorem c_CS_append (l : Launch) (D : va_G) (B : Nat) (H0 : Heap) (w : jW) (x tp : Nat) (V : Nat → Value) (f : Nat → Int32) (t b : Int32) (hx : w.1 x = some (.inr (8, V))) (h0 : V 0 = .ref tp) (h1 : V 1 = .int t) (ht : w.1 tp = some (aI D 120 f)) (t0 : 0 ≤ t.toInt) (t1 : t.toInt < 120) : jMet l D B H0 y_CS_append b_CS_append 2 none 1 40 0 0 [.ref x, .int b] w (fun v w9 => v = none ∧ (w9.2.1 = w.2.1 + 0 ∧ w9.2.2 = w.2.2 + 0) ∧ jfr (fun b => b ≠ x ∧ b ≠ tp) w w9 ∧ w9.1 x = some (.inr (8, updV V 1 (.int (t + 1)))) ∧ w9.1 tp = some (aI D 120 (upd f (Int32.toNatClampNeg t) b))) := by
  refine j_met (by decide) (Nat.le_of_ble_eq_true rfl) (fun g C Rm Y E => ?_)
  have hk := jkz w
  have fr0 : jfr (fun b => b ≠ x ∧ b ≠ tp) w w := jfr0
  show JJ g w 0 [(0, .ref x), (1, .int b)] []
  refine j_blk 1 [(0, .ref x), (1, .int b)] [.ref x] C k_c_CS_append_0_1 rfl ?_
  refine j_get C d_c_CS_append_1 fg_CS_51 hx h1 ?_
  refine j_blk 6 [(0, .ref x), (1, .int b)] [.int 120, .int t] C k_c_CS_append_4_1 rfl ?_
  refine j_icmp_ge (tgt := 29) C d_c_CS_append_6 (by decide) (fun c1 => absurd c1 (by rw [jle, kt_120]; omega)) (fun c1 => ?_)
  refine j_blk 10 [(0, .ref x), (1, .int b)] [.ref x] C k_c_CS_append_9_1 rfl ?_
  refine j_get C d_c_CS_append_10 fg_CS_9 hx h0 ?_
  refine j_blk 14 [(0, .ref x), (1, .int b)] [.ref x, .ref tp] C k_c_CS_append_13_1 rfl ?_
  refine j_get C d_c_CS_append_14 fg_CS_51 hx h1 ?_
  refine j_blk 18 [(0, .ref x), (1, .int b)] [.int b, .int t, .ref tp] C k_c_CS_append_17_1 rfl ?_
  refine j_iast C d_c_CS_append_18 ht (jin t0 t1) ?_
  refine jnv (fun w_1 ew_1 => ?_)
  have m_tp_w_1 : w_1.1 tp = some (aI D 120 (upd f (Int32.toNatClampNeg t) b)) := jus ew_1
  have hk_w_1 := jk0 ew_1 hk
  have fr_w_1 := jfrW ew_1 fr0 (fun b e hb _ => hb.2)
  refine j_blk 21 [(0, .ref x), (1, .int b)] [.ref x, .ref x] C k_c_CS_append_19_2 rfl ?_
  have m_x_w_1 := jun ew_1 hx (jneOA hx ht)
  refine j_get C d_c_CS_append_21 fg_CS_51 m_x_w_1 h1 ?_
  refine j_blk 26 [(0, .ref x), (1, .int b)] [.int (t + 1), .ref x] C k_c_CS_append_24_2 rfl ?_
  refine j_put C d_c_CS_append_26 fp_CS_51 m_x_w_1 rfl rfl ?_
  refine jnv (fun w_2 ew_2 => ?_)
  have m_x_w_2 : w_2.1 x = some (.inr (8, (updV V 1 (.int (t + 1))))) := jus ew_2
  have hk_w_2 := jk0 ew_2 hk_w_1
  have fr_w_2 := jfrW ew_2 fr_w_1 (fun b e hb _ => hb.1)
  have m_tp_w_2 := jun ew_2 m_tp_w_1 (jneAO m_tp_w_1 m_x_w_1)
  exact j_vret C Rm E d_c_CS_append_29 ⟨rfl, hk_w_2, fr_w_2, m_x_w_2, m_tp_w_2⟩ (jbnd hk_w_2.1 rfl) (jbnd hk_w_2.2 rfl)

theorem k_c_CS_feed_0_2 : sblk b_CS_feed [(0, .iload_n 1, .null), (1, .iconst 1, .int 1)] := sblk_of (by decide +kernel)
theorem d_c_CS_feed_2 : decode b_CS_feed 2 = .ok (.if_icmp .lt 46, 3) := by decide +kernel
theorem k_c_CS_feed_48_1 : sblk b_CS_feed [(48, .bipush (-2), .int (-2))] := sblk_of (by decide +kernel)
theorem d_c_CS_feed_50 : decode b_CS_feed 50 = .ok (.ireturn, 1) := by decide +kernel
theorem k_c_CS_feed_5_2 : sblk b_CS_feed [(5, .iload_n 1, .null), (6, .iconst 5, .int 5)] := sblk_of (by decide +kernel)
theorem d_c_CS_feed_7 : decode b_CS_feed 7 = .ok (.if_icmp .gt 41, 3) := by decide +kernel
theorem k_c_CS_feed_10_1 : sblk b_CS_feed [(10, .iload_n 2, .null)] := sblk_of (by decide +kernel)
theorem d_c_CS_feed_11 : decode b_CS_feed 11 = .ok (.invokestatic 47, 3) := by decide +kernel
theorem d_c_CS_feed_14 : decode b_CS_feed 14 = .ok (.ifCond .eq 34, 3) := by decide +kernel
theorem k_c_CS_feed_17_1 : sblk b_CS_feed [(17, .iload_n 3, .null)] := sblk_of (by decide +kernel)
theorem d_c_CS_feed_18 : decode b_CS_feed 18 = .ok (.invokestatic 47, 3) := by decide +kernel
theorem d_c_CS_feed_21 : decode b_CS_feed 21 = .ok (.ifCond .eq 27, 3) := by decide +kernel
theorem k_c_CS_feed_24_1 : sblk b_CS_feed [(24, .iload 4, .null)] := sblk_of (by decide +kernel)
theorem d_c_CS_feed_26 : decode b_CS_feed 26 = .ok (.invokestatic 47, 3) := by decide +kernel
theorem d_c_CS_feed_29 : decode b_CS_feed 29 = .ok (.ifCond .eq 19, 3) := by decide +kernel
theorem k_c_CS_feed_32_1 : sblk b_CS_feed [(32, .iload 5, .null)] := sblk_of (by decide +kernel)
theorem d_c_CS_feed_34 : decode b_CS_feed 34 = .ok (.invokestatic 47, 3) := by decide +kernel
theorem d_c_CS_feed_37 : decode b_CS_feed 37 = .ok (.ifCond .eq 11, 3) := by decide +kernel
theorem k_c_CS_feed_40_1 : sblk b_CS_feed [(40, .iload 6, .null)] := sblk_of (by decide +kernel)
theorem d_c_CS_feed_42 : decode b_CS_feed 42 = .ok (.invokestatic 47, 3) := by decide +kernel
theorem d_c_CS_feed_45 : decode b_CS_feed 45 = .ok (.ifCond .ne 6, 3) := by decide +kernel
theorem k_c_CS_feed_51_3 : sblk b_CS_feed [(51, .iload_n 1, .null), (52, .bipush 120, .int 120), (54, .aload_n 0, .null)] := sblk_of (by decide +kernel)
theorem d_c_CS_feed_55 : decode b_CS_feed 55 = .ok (.getfield 51, 3) := by decide +kernel
theorem k_c_CS_feed_58_1 : sblk b_CS_feed [(58, .isub, .null)] := sblk_of (by decide +kernel)
theorem d_c_CS_feed_59 : decode b_CS_feed 59 = .ok (.if_icmp .le 6, 3) := by decide +kernel
theorem k_c_CS_feed_65_4 : sblk b_CS_feed [(65, .iconst 0, .int 0), (66, .istore 7, .null), (68, .iload 7, .null), (70, .iload_n 1, .null)] := sblk_of (by decide +kernel)
theorem d_c_CS_feed_71 : decode b_CS_feed 71 = .ok (.if_icmp .ge 56, 3) := by decide +kernel
theorem k_c_CS_feed_74_2 : sblk b_CS_feed [(74, .aload_n 0, .null), (75, .iload 7, .null)] := sblk_of (by decide +kernel)
theorem d_c_CS_feed_77 : decode b_CS_feed 77 = .ok (.ifCond .ne 7, 3) := by decide +kernel
theorem k_c_CS_feed_80_2 : sblk b_CS_feed [(80, .iload_n 2, .null), (81, .goto 37, .retAddr 118)] := sblk_of (by decide +kernel)
theorem d_c_CS_feed_118 : decode b_CS_feed 118 = .ok (.invokevirtual 55, 3) := by decide +kernel
theorem k_c_CS_feed_121_2 : sblk b_CS_feed [(121, .iinc 7 1, .int 1), (124, .goto (-56), .retAddr 68)] := sblk_of (by decide +kernel)
theorem k_c_CS_feed_68_2 : sblk b_CS_feed [(68, .iload 7, .null), (70, .iload_n 1, .null)] := sblk_of (by decide +kernel)
theorem k_c_CS_feed_127_1 : sblk b_CS_feed [(127, .aload_n 0, .null)] := sblk_of (by decide +kernel)
theorem d_c_CS_feed_128 : decode b_CS_feed 128 = .ok (.getfield 51, 3) := by decide +kernel
theorem d_c_CS_feed_131 : decode b_CS_feed 131 = .ok (.ireturn, 1) := by decide +kernel
theorem k_c_CS_feed_84_2 : sblk b_CS_feed [(84, .iload 7, .null), (86, .iconst 1, .int 1)] := sblk_of (by decide +kernel)
theorem d_c_CS_feed_87 : decode b_CS_feed 87 = .ok (.if_icmp .ne 7, 3) := by decide +kernel
theorem k_c_CS_feed_90_2 : sblk b_CS_feed [(90, .iload_n 3, .null), (91, .goto 27, .retAddr 118)] := sblk_of (by decide +kernel)
theorem k_c_CS_feed_94_2 : sblk b_CS_feed [(94, .iload 7, .null), (96, .iconst 2, .int 2)] := sblk_of (by decide +kernel)
theorem d_c_CS_feed_97 : decode b_CS_feed 97 = .ok (.if_icmp .ne 8, 3) := by decide +kernel
theorem k_c_CS_feed_100_2 : sblk b_CS_feed [(100, .iload 4, .null), (102, .goto 16, .retAddr 118)] := sblk_of (by decide +kernel)
theorem k_c_CS_feed_105_2 : sblk b_CS_feed [(105, .iload 7, .null), (107, .iconst 3, .int 3)] := sblk_of (by decide +kernel)
theorem d_c_CS_feed_108 : decode b_CS_feed 108 = .ok (.if_icmp .ne 8, 3) := by decide +kernel
theorem k_c_CS_feed_111_2 : sblk b_CS_feed [(111, .iload 5, .null), (113, .goto 5, .retAddr 118)] := sblk_of (by decide +kernel)
theorem k_c_CS_feed_116_1 : sblk b_CS_feed [(116, .iload 6, .null)] := sblk_of (by decide +kernel)
set_option maxHeartbeats 40000000 in
set_option maxRecDepth 100000 in
theorem c_CS_feed (l : Launch) (D : va_G) (B : Nat) (H0 : Heap) (w : jW) (x tp : Nat) (V : Nat → Value) (n a b c d e : Int32) (hx : w.1 x = some (.inr (8, V))) (h0 : V 0 = .ref tp) (h1 : V 1 = .int 0) (ht : w.1 tp = some (aI D 120 (fun _ => 0))) (q : Nat) (xq : x < q) (tq : tp < q) : jMet l D B H0 y_CS_feed b_CS_feed 8 (some .int) 3 160 0 0 [.ref x, .int n, .int a, .int b, .int c, .int d, .int e] w (fun v w9 => v = some (.int (an_feed n a b c d e)) ∧ jfr (fun b => q ≤ b) w w9) := by
  refine j_met (by decide) (Nat.le_of_ble_eq_true rfl) (fun g C Rm Y E => ?_)
  have hk := jkz w
  have fr0 : jfr (fun b => q ≤ b) w w := jfr0
  show JJ g w 0 [(0, .ref x), (1, .int n), (2, .int a), (3, .int b), (4, .int c), (5, .int d), (6, .int e)] []
  refine j_blk 2 [(0, .ref x), (1, .int n), (2, .int a), (3, .int b), (4, .int c), (5, .int d), (6, .int e)] [.int 1, .int n] C k_c_CS_feed_0_2 rfl ?_
  refine j_icmp_lt (tgt := 48) C d_c_CS_feed_2 (by decide) (fun c1 => ?_) (fun c1 => ?_)
  · refine j_blk 50 [(0, .ref x), (1, .int n), (2, .int a), (3, .int b), (4, .int c), (5, .int d), (6, .int e)] [.int (-2)] C k_c_CS_feed_48_1 rfl ?_
    exact j_iret C Rm E d_c_CS_feed_50 ⟨jin_ (fun hq => absurd hq (by (try simp only [jlt, jle, jeq, kt_0, kt_1, kt_2, kt_3, kt_4, kt_5, kt_6, kt_7, kt_8, kt_9, kt_10, kt_11, kt_12, kt_13, kt_15, kt_16, kt_19, kt_20, kt_24, kt_25, kt_31, kt_32, kt_40, kt_50, kt_60, kt_63, kt_100, kt_120, kt_255, kt_300, kt_999999, kt_1000000, kt_m1, kt_m2, kt_m3, kt_m4, kt_m6, kt_m7, kt_m11, kt_m12, kt_m13, kt_m14, kt_m100] at c1); (try simp only [kt_0, kt_1, kt_2, kt_3, kt_4, kt_5, kt_6, kt_7, kt_8, kt_9, kt_10, kt_11, kt_12, kt_13, kt_15, kt_16, kt_19, kt_20, kt_24, kt_25, kt_31, kt_32, kt_40, kt_50, kt_60, kt_63, kt_100, kt_120, kt_255, kt_300, kt_999999, kt_1000000, kt_m1, kt_m2, kt_m3, kt_m4, kt_m6, kt_m7, kt_m11, kt_m12, kt_m13, kt_m14, kt_m100]); omega)), fr0⟩ (jbnd hk.1 rfl) (jbnd hk.2 rfl)
  · refine j_blk 7 [(0, .ref x), (1, .int n), (2, .int a), (3, .int b), (4, .int c), (5, .int d), (6, .int e)] [.int 5, .int n] C k_c_CS_feed_5_2 rfl ?_
    refine j_icmp_gt (tgt := 48) C d_c_CS_feed_7 (by decide) (fun c2 => ?_) (fun c2 => ?_)
    · refine j_blk 50 [(0, .ref x), (1, .int n), (2, .int a), (3, .int b), (4, .int c), (5, .int d), (6, .int e)] [.int (-2)] C k_c_CS_feed_48_1 rfl ?_
      exact j_iret C Rm E d_c_CS_feed_50 ⟨jin_ (fun hq => absurd hq (by (try simp only [jlt, jle, jeq, kt_0, kt_1, kt_2, kt_3, kt_4, kt_5, kt_6, kt_7, kt_8, kt_9, kt_10, kt_11, kt_12, kt_13, kt_15, kt_16, kt_19, kt_20, kt_24, kt_25, kt_31, kt_32, kt_40, kt_50, kt_60, kt_63, kt_100, kt_120, kt_255, kt_300, kt_999999, kt_1000000, kt_m1, kt_m2, kt_m3, kt_m4, kt_m6, kt_m7, kt_m11, kt_m12, kt_m13, kt_m14, kt_m100] at c1); (try simp only [jlt, jle, jeq, kt_0, kt_1, kt_2, kt_3, kt_4, kt_5, kt_6, kt_7, kt_8, kt_9, kt_10, kt_11, kt_12, kt_13, kt_15, kt_16, kt_19, kt_20, kt_24, kt_25, kt_31, kt_32, kt_40, kt_50, kt_60, kt_63, kt_100, kt_120, kt_255, kt_300, kt_999999, kt_1000000, kt_m1, kt_m2, kt_m3, kt_m4, kt_m6, kt_m7, kt_m11, kt_m12, kt_m13, kt_m14, kt_m100] at c2); (try simp only [kt_0, kt_1, kt_2, kt_3, kt_4, kt_5, kt_6, kt_7, kt_8, kt_9, kt_10, kt_11, kt_12, kt_13, kt_15, kt_16, kt_19, kt_20, kt_24, kt_25, kt_31, kt_32, kt_40, kt_50, kt_60, kt_63, kt_100, kt_120, kt_255, kt_300, kt_999999, kt_1000000, kt_m1, kt_m2, kt_m3, kt_m4, kt_m6, kt_m7, kt_m11, kt_m12, kt_m13, kt_m14, kt_m100]); omega)), fr0⟩ (jbnd hk.1 rfl) (jbnd hk.2 rfl)
    · refine j_blk 11 [(0, .ref x), (1, .int n), (2, .int a), (3, .int b), (4, .int c), (5, .int d), (6, .int e)] [.int a] C k_c_CS_feed_10_1 rfl ?_
      refine j_callS (As := [.int a]) C Rm Y [] (c_CS_isByte l D B H0 w a) cl_CS_47 d_c_CS_feed_11 rfl rfl (Nat.le_of_ble_eq_true rfl) ⟨by decide, by decide⟩ ⟨jroom hk.1 rfl, jroom hk.2 rfl⟩ (fun v3 w_1 pw_1 => ?_)
      obtain ⟨rfl, rfl⟩ := pw_1
      show JJ g w 14 [(0, .ref x), (1, .int n), (2, .int a), (3, .int b), (4, .int c), (5, .int d), (6, .int e)] [.int (if 0 ≤ a.toInt ∧ a.toInt ≤ 255 then 1 else 0)]
      refine j_if_eq (tgt := 48) C d_c_CS_feed_14 (by decide) (fun c4 => ?_) (fun c4 => ?_)
      · have c4 := jbz.mp c4
        refine j_blk 50 [(0, .ref x), (1, .int n), (2, .int a), (3, .int b), (4, .int c), (5, .int d), (6, .int e)] [.int (-2)] C k_c_CS_feed_48_1 rfl ?_
        exact j_iret C Rm E d_c_CS_feed_50 ⟨jin_ (fun hq => absurd hq (by (try simp only [jlt, jle, jeq, kt_0, kt_1, kt_2, kt_3, kt_4, kt_5, kt_6, kt_7, kt_8, kt_9, kt_10, kt_11, kt_12, kt_13, kt_15, kt_16, kt_19, kt_20, kt_24, kt_25, kt_31, kt_32, kt_40, kt_50, kt_60, kt_63, kt_100, kt_120, kt_255, kt_300, kt_999999, kt_1000000, kt_m1, kt_m2, kt_m3, kt_m4, kt_m6, kt_m7, kt_m11, kt_m12, kt_m13, kt_m14, kt_m100] at c1); (try simp only [jlt, jle, jeq, kt_0, kt_1, kt_2, kt_3, kt_4, kt_5, kt_6, kt_7, kt_8, kt_9, kt_10, kt_11, kt_12, kt_13, kt_15, kt_16, kt_19, kt_20, kt_24, kt_25, kt_31, kt_32, kt_40, kt_50, kt_60, kt_63, kt_100, kt_120, kt_255, kt_300, kt_999999, kt_1000000, kt_m1, kt_m2, kt_m3, kt_m4, kt_m6, kt_m7, kt_m11, kt_m12, kt_m13, kt_m14, kt_m100] at c2); (try simp only [jlt, jle, jeq, kt_0, kt_1, kt_2, kt_3, kt_4, kt_5, kt_6, kt_7, kt_8, kt_9, kt_10, kt_11, kt_12, kt_13, kt_15, kt_16, kt_19, kt_20, kt_24, kt_25, kt_31, kt_32, kt_40, kt_50, kt_60, kt_63, kt_100, kt_120, kt_255, kt_300, kt_999999, kt_1000000, kt_m1, kt_m2, kt_m3, kt_m4, kt_m6, kt_m7, kt_m11, kt_m12, kt_m13, kt_m14, kt_m100] at c4); (try simp only [kt_0, kt_1, kt_2, kt_3, kt_4, kt_5, kt_6, kt_7, kt_8, kt_9, kt_10, kt_11, kt_12, kt_13, kt_15, kt_16, kt_19, kt_20, kt_24, kt_25, kt_31, kt_32, kt_40, kt_50, kt_60, kt_63, kt_100, kt_120, kt_255, kt_300, kt_999999, kt_1000000, kt_m1, kt_m2, kt_m3, kt_m4, kt_m6, kt_m7, kt_m11, kt_m12, kt_m13, kt_m14, kt_m100]); omega)), fr0⟩ (jbnd hk.1 rfl) (jbnd hk.2 rfl)
      · have c4 := jbo.mp c4
        refine j_blk 18 [(0, .ref x), (1, .int n), (2, .int a), (3, .int b), (4, .int c), (5, .int d), (6, .int e)] [.int b] C k_c_CS_feed_17_1 rfl ?_
        refine j_callS (As := [.int b]) C Rm Y [] (c_CS_isByte l D B H0 w b) cl_CS_47 d_c_CS_feed_18 rfl rfl (Nat.le_of_ble_eq_true rfl) ⟨by decide, by decide⟩ ⟨jroom hk.1 rfl, jroom hk.2 rfl⟩ (fun v5 w_2 pw_2 => ?_)
        obtain ⟨rfl, rfl⟩ := pw_2
        show JJ g w 21 [(0, .ref x), (1, .int n), (2, .int a), (3, .int b), (4, .int c), (5, .int d), (6, .int e)] [.int (if 0 ≤ b.toInt ∧ b.toInt ≤ 255 then 1 else 0)]
        refine j_if_eq (tgt := 48) C d_c_CS_feed_21 (by decide) (fun c6 => ?_) (fun c6 => ?_)
        · have c6 := jbz.mp c6
          refine j_blk 50 [(0, .ref x), (1, .int n), (2, .int a), (3, .int b), (4, .int c), (5, .int d), (6, .int e)] [.int (-2)] C k_c_CS_feed_48_1 rfl ?_
          exact j_iret C Rm E d_c_CS_feed_50 ⟨jin_ (fun hq => absurd hq (by (try simp only [jlt, jle, jeq, kt_0, kt_1, kt_2, kt_3, kt_4, kt_5, kt_6, kt_7, kt_8, kt_9, kt_10, kt_11, kt_12, kt_13, kt_15, kt_16, kt_19, kt_20, kt_24, kt_25, kt_31, kt_32, kt_40, kt_50, kt_60, kt_63, kt_100, kt_120, kt_255, kt_300, kt_999999, kt_1000000, kt_m1, kt_m2, kt_m3, kt_m4, kt_m6, kt_m7, kt_m11, kt_m12, kt_m13, kt_m14, kt_m100] at c1); (try simp only [jlt, jle, jeq, kt_0, kt_1, kt_2, kt_3, kt_4, kt_5, kt_6, kt_7, kt_8, kt_9, kt_10, kt_11, kt_12, kt_13, kt_15, kt_16, kt_19, kt_20, kt_24, kt_25, kt_31, kt_32, kt_40, kt_50, kt_60, kt_63, kt_100, kt_120, kt_255, kt_300, kt_999999, kt_1000000, kt_m1, kt_m2, kt_m3, kt_m4, kt_m6, kt_m7, kt_m11, kt_m12, kt_m13, kt_m14, kt_m100] at c2); (try simp only [jlt, jle, jeq, kt_0, kt_1, kt_2, kt_3, kt_4, kt_5, kt_6, kt_7, kt_8, kt_9, kt_10, kt_11, kt_12, kt_13, kt_15, kt_16, kt_19, kt_20, kt_24, kt_25, kt_31, kt_32, kt_40, kt_50, kt_60, kt_63, kt_100, kt_120, kt_255, kt_300, kt_999999, kt_1000000, kt_m1, kt_m2, kt_m3, kt_m4, kt_m6, kt_m7, kt_m11, kt_m12, kt_m13, kt_m14, kt_m100] at c4); (try simp only [jlt, jle, jeq, kt_0, kt_1, kt_2, kt_3, kt_4, kt_5, kt_6, kt_7, kt_8, kt_9, kt_10, kt_11, kt_12, kt_13, kt_15, kt_16, kt_19, kt_20, kt_24, kt_25, kt_31, kt_32, kt_40, kt_50, kt_60, kt_63, kt_100, kt_120, kt_255, kt_300, kt_999999, kt_1000000, kt_m1, kt_m2, kt_m3, kt_m4, kt_m6, kt_m7, kt_m11, kt_m12, kt_m13, kt_m14, kt_m100] at c6); (try simp only [kt_0, kt_1, kt_2, kt_3, kt_4, kt_5, kt_6, kt_7, kt_8, kt_9, kt_10, kt_11, kt_12, kt_13, kt_15, kt_16, kt_19, kt_20, kt_24, kt_25, kt_31, kt_32, kt_40, kt_50, kt_60, kt_63, kt_100, kt_120, kt_255, kt_300, kt_999999, kt_1000000, kt_m1, kt_m2, kt_m3, kt_m4, kt_m6, kt_m7, kt_m11, kt_m12, kt_m13, kt_m14, kt_m100]); omega)), fr0⟩ (jbnd hk.1 rfl) (jbnd hk.2 rfl)
        · have c6 := jbo.mp c6
          refine j_blk 26 [(0, .ref x), (1, .int n), (2, .int a), (3, .int b), (4, .int c), (5, .int d), (6, .int e)] [.int c] C k_c_CS_feed_24_1 rfl ?_
          refine j_callS (As := [.int c]) C Rm Y [] (c_CS_isByte l D B H0 w c) cl_CS_47 d_c_CS_feed_26 rfl rfl (Nat.le_of_ble_eq_true rfl) ⟨by decide, by decide⟩ ⟨jroom hk.1 rfl, jroom hk.2 rfl⟩ (fun v7 w_3 pw_3 => ?_)
          obtain ⟨rfl, rfl⟩ := pw_3
          show JJ g w 29 [(0, .ref x), (1, .int n), (2, .int a), (3, .int b), (4, .int c), (5, .int d), (6, .int e)] [.int (if 0 ≤ c.toInt ∧ c.toInt ≤ 255 then 1 else 0)]
          refine j_if_eq (tgt := 48) C d_c_CS_feed_29 (by decide) (fun c8 => ?_) (fun c8 => ?_)
          · have c8 := jbz.mp c8
            refine j_blk 50 [(0, .ref x), (1, .int n), (2, .int a), (3, .int b), (4, .int c), (5, .int d), (6, .int e)] [.int (-2)] C k_c_CS_feed_48_1 rfl ?_
            exact j_iret C Rm E d_c_CS_feed_50 ⟨jin_ (fun hq => absurd hq (by (try simp only [jlt, jle, jeq, kt_0, kt_1, kt_2, kt_3, kt_4, kt_5, kt_6, kt_7, kt_8, kt_9, kt_10, kt_11, kt_12, kt_13, kt_15, kt_16, kt_19, kt_20, kt_24, kt_25, kt_31, kt_32, kt_40, kt_50, kt_60, kt_63, kt_100, kt_120, kt_255, kt_300, kt_999999, kt_1000000, kt_m1, kt_m2, kt_m3, kt_m4, kt_m6, kt_m7, kt_m11, kt_m12, kt_m13, kt_m14, kt_m100] at c1); (try simp only [jlt, jle, jeq, kt_0, kt_1, kt_2, kt_3, kt_4, kt_5, kt_6, kt_7, kt_8, kt_9, kt_10, kt_11, kt_12, kt_13, kt_15, kt_16, kt_19, kt_20, kt_24, kt_25, kt_31, kt_32, kt_40, kt_50, kt_60, kt_63, kt_100, kt_120, kt_255, kt_300, kt_999999, kt_1000000, kt_m1, kt_m2, kt_m3, kt_m4, kt_m6, kt_m7, kt_m11, kt_m12, kt_m13, kt_m14, kt_m100] at c2); (try simp only [jlt, jle, jeq, kt_0, kt_1, kt_2, kt_3, kt_4, kt_5, kt_6, kt_7, kt_8, kt_9, kt_10, kt_11, kt_12, kt_13, kt_15, kt_16, kt_19, kt_20, kt_24, kt_25, kt_31, kt_32, kt_40, kt_50, kt_60, kt_63, kt_100, kt_120, kt_255, kt_300, kt_999999, kt_1000000, kt_m1, kt_m2, kt_m3, kt_m4, kt_m6, kt_m7, kt_m11, kt_m12, kt_m13, kt_m14, kt_m100] at c4); (try simp only [jlt, jle, jeq, kt_0, kt_1, kt_2, kt_3, kt_4, kt_5, kt_6, kt_7, kt_8, kt_9, kt_10, kt_11, kt_12, kt_13, kt_15, kt_16, kt_19, kt_20, kt_24, kt_25, kt_31, kt_32, kt_40, kt_50, kt_60, kt_63, kt_100, kt_120, kt_255, kt_300, kt_999999, kt_1000000, kt_m1, kt_m2, kt_m3, kt_m4, kt_m6, kt_m7, kt_m11, kt_m12, kt_m13, kt_m14, kt_m100] at c6); (try simp only [jlt, jle, jeq, kt_0, kt_1, kt_2, kt_3, kt_4, kt_5, kt_6, kt_7, kt_8, kt_9, kt_10, kt_11, kt_12, kt_13, kt_15, kt_16, kt_19, kt_20, kt_24, kt_25, kt_31, kt_32, kt_40, kt_50, kt_60, kt_63, kt_100, kt_120, kt_255, kt_300, kt_999999, kt_1000000, kt_m1, kt_m2, kt_m3, kt_m4, kt_m6, kt_m7, kt_m11, kt_m12, kt_m13, kt_m14, kt_m100] at c8); (try simp only [kt_0, kt_1, kt_2, kt_3, kt_4, kt_5, kt_6, kt_7, kt_8, kt_9, kt_10, kt_11, kt_12, kt_13, kt_15, kt_16, kt_19, kt_20, kt_24, kt_25, kt_31, kt_32, kt_40, kt_50, kt_60, kt_63, kt_100, kt_120, kt_255, kt_300, kt_999999, kt_1000000, kt_m1, kt_m2, kt_m3, kt_m4, kt_m6, kt_m7, kt_m11, kt_m12, kt_m13, kt_m14, kt_m100]); omega)), fr0⟩ (jbnd hk.1 rfl) (jbnd hk.2 rfl)
          · have c8 := jbo.mp c8
            refine j_blk 34 [(0, .ref x), (1, .int n), (2, .int a), (3, .int b), (4, .int c), (5, .int d), (6, .int e)] [.int d] C k_c_CS_feed_32_1 rfl ?_
            refine j_callS (As := [.int d]) C Rm Y [] (c_CS_isByte l D B H0 w d) cl_CS_47 d_c_CS_feed_34 rfl rfl (Nat.le_of_ble_eq_true rfl) ⟨by decide, by decide⟩ ⟨jroom hk.1 rfl, jroom hk.2 rfl⟩ (fun v9 w_4 pw_4 => ?_)
            obtain ⟨rfl, rfl⟩ := pw_4
            show JJ g w 37 [(0, .ref x), (1, .int n), (2, .int a), (3, .int b), (4, .int c), (5, .int d), (6, .int e)] [.int (if 0 ≤ d.toInt ∧ d.toInt ≤ 255 then 1 else 0)]
            refine j_if_eq (tgt := 48) C d_c_CS_feed_37 (by decide) (fun c10 => ?_) (fun c10 => ?_)
            · have c10 := jbz.mp c10
              refine j_blk 50 [(0, .ref x), (1, .int n), (2, .int a), (3, .int b), (4, .int c), (5, .int d), (6, .int e)] [.int (-2)] C k_c_CS_feed_48_1 rfl ?_
              exact j_iret C Rm E d_c_CS_feed_50 ⟨jin_ (fun hq => absurd hq (by (try simp only [jlt, jle, jeq, kt_0, kt_1, kt_2, kt_3, kt_4, kt_5, kt_6, kt_7, kt_8, kt_9, kt_10, kt_11, kt_12, kt_13, kt_15, kt_16, kt_19, kt_20, kt_24, kt_25, kt_31, kt_32, kt_40, kt_50, kt_60, kt_63, kt_100, kt_120, kt_255, kt_300, kt_999999, kt_1000000, kt_m1, kt_m2, kt_m3, kt_m4, kt_m6, kt_m7, kt_m11, kt_m12, kt_m13, kt_m14, kt_m100] at c1); (try simp only [jlt, jle, jeq, kt_0, kt_1, kt_2, kt_3, kt_4, kt_5, kt_6, kt_7, kt_8, kt_9, kt_10, kt_11, kt_12, kt_13, kt_15, kt_16, kt_19, kt_20, kt_24, kt_25, kt_31, kt_32, kt_40, kt_50, kt_60, kt_63, kt_100, kt_120, kt_255, kt_300, kt_999999, kt_1000000, kt_m1, kt_m2, kt_m3, kt_m4, kt_m6, kt_m7, kt_m11, kt_m12, kt_m13, kt_m14, kt_m100] at c2); (try simp only [jlt, jle, jeq, kt_0, kt_1, kt_2, kt_3, kt_4, kt_5, kt_6, kt_7, kt_8, kt_9, kt_10, kt_11, kt_12, kt_13, kt_15, kt_16, kt_19, kt_20, kt_24, kt_25, kt_31, kt_32, kt_40, kt_50, kt_60, kt_63, kt_100, kt_120, kt_255, kt_300, kt_999999, kt_1000000, kt_m1, kt_m2, kt_m3, kt_m4, kt_m6, kt_m7, kt_m11, kt_m12, kt_m13, kt_m14, kt_m100] at c4); (try simp only [jlt, jle, jeq, kt_0, kt_1, kt_2, kt_3, kt_4, kt_5, kt_6, kt_7, kt_8, kt_9, kt_10, kt_11, kt_12, kt_13, kt_15, kt_16, kt_19, kt_20, kt_24, kt_25, kt_31, kt_32, kt_40, kt_50, kt_60, kt_63, kt_100, kt_120, kt_255, kt_300, kt_999999, kt_1000000, kt_m1, kt_m2, kt_m3, kt_m4, kt_m6, kt_m7, kt_m11, kt_m12, kt_m13, kt_m14, kt_m100] at c6); (try simp only [jlt, jle, jeq, kt_0, kt_1, kt_2, kt_3, kt_4, kt_5, kt_6, kt_7, kt_8, kt_9, kt_10, kt_11, kt_12, kt_13, kt_15, kt_16, kt_19, kt_20, kt_24, kt_25, kt_31, kt_32, kt_40, kt_50, kt_60, kt_63, kt_100, kt_120, kt_255, kt_300, kt_999999, kt_1000000, kt_m1, kt_m2, kt_m3, kt_m4, kt_m6, kt_m7, kt_m11, kt_m12, kt_m13, kt_m14, kt_m100] at c8); (try simp only [jlt, jle, jeq, kt_0, kt_1, kt_2, kt_3, kt_4, kt_5, kt_6, kt_7, kt_8, kt_9, kt_10, kt_11, kt_12, kt_13, kt_15, kt_16, kt_19, kt_20, kt_24, kt_25, kt_31, kt_32, kt_40, kt_50, kt_60, kt_63, kt_100, kt_120, kt_255, kt_300, kt_999999, kt_1000000, kt_m1, kt_m2, kt_m3, kt_m4, kt_m6, kt_m7, kt_m11, kt_m12, kt_m13, kt_m14, kt_m100] at c10); (try simp only [kt_0, kt_1, kt_2, kt_3, kt_4, kt_5, kt_6, kt_7, kt_8, kt_9, kt_10, kt_11, kt_12, kt_13, kt_15, kt_16, kt_19, kt_20, kt_24, kt_25, kt_31, kt_32, kt_40, kt_50, kt_60, kt_63, kt_100, kt_120, kt_255, kt_300, kt_999999, kt_1000000, kt_m1, kt_m2, kt_m3, kt_m4, kt_m6, kt_m7, kt_m11, kt_m12, kt_m13, kt_m14, kt_m100]); omega)), fr0⟩ (jbnd hk.1 rfl) (jbnd hk.2 rfl)
            · have c10 := jbo.mp c10
              refine j_blk 42 [(0, .ref x), (1, .int n), (2, .int a), (3, .int b), (4, .int c), (5, .int d), (6, .int e)] [.int e] C k_c_CS_feed_40_1 rfl ?_
              refine j_callS (As := [.int e]) C Rm Y [] (c_CS_isByte l D B H0 w e) cl_CS_47 d_c_CS_feed_42 rfl rfl (Nat.le_of_ble_eq_true rfl) ⟨by decide, by decide⟩ ⟨jroom hk.1 rfl, jroom hk.2 rfl⟩ (fun v11 w_5 pw_5 => ?_)
              obtain ⟨rfl, rfl⟩ := pw_5
              show JJ g w 45 [(0, .ref x), (1, .int n), (2, .int a), (3, .int b), (4, .int c), (5, .int d), (6, .int e)] [.int (if 0 ≤ e.toInt ∧ e.toInt ≤ 255 then 1 else 0)]
              refine j_if_ne (tgt := 51) C d_c_CS_feed_45 (by decide) (fun c12 => ?_) (fun c12 => ?_)
              · have c12 := jbo.mp c12
                have hn : n = 1 ∨ n = 2 ∨ n = 3 ∨ n = 4 ∨ n = 5 := by
                  have g1 : 1 ≤ n.toInt ∧ n.toInt ≤ 5 := (by (try simp only [jlt, jle, jeq, kt_0, kt_1, kt_2, kt_3, kt_4, kt_5, kt_6, kt_7, kt_8, kt_9, kt_10, kt_11, kt_12, kt_13, kt_15, kt_16, kt_19, kt_20, kt_24, kt_25, kt_31, kt_32, kt_40, kt_50, kt_60, kt_63, kt_100, kt_120, kt_255, kt_300, kt_999999, kt_1000000, kt_m1, kt_m2, kt_m3, kt_m4, kt_m6, kt_m7, kt_m11, kt_m12, kt_m13, kt_m14, kt_m100] at c1); (try simp only [jlt, jle, jeq, kt_0, kt_1, kt_2, kt_3, kt_4, kt_5, kt_6, kt_7, kt_8, kt_9, kt_10, kt_11, kt_12, kt_13, kt_15, kt_16, kt_19, kt_20, kt_24, kt_25, kt_31, kt_32, kt_40, kt_50, kt_60, kt_63, kt_100, kt_120, kt_255, kt_300, kt_999999, kt_1000000, kt_m1, kt_m2, kt_m3, kt_m4, kt_m6, kt_m7, kt_m11, kt_m12, kt_m13, kt_m14, kt_m100] at c2); (try simp only [jlt, jle, jeq, kt_0, kt_1, kt_2, kt_3, kt_4, kt_5, kt_6, kt_7, kt_8, kt_9, kt_10, kt_11, kt_12, kt_13, kt_15, kt_16, kt_19, kt_20, kt_24, kt_25, kt_31, kt_32, kt_40, kt_50, kt_60, kt_63, kt_100, kt_120, kt_255, kt_300, kt_999999, kt_1000000, kt_m1, kt_m2, kt_m3, kt_m4, kt_m6, kt_m7, kt_m11, kt_m12, kt_m13, kt_m14, kt_m100] at c4); (try simp only [jlt, jle, jeq, kt_0, kt_1, kt_2, kt_3, kt_4, kt_5, kt_6, kt_7, kt_8, kt_9, kt_10, kt_11, kt_12, kt_13, kt_15, kt_16, kt_19, kt_20, kt_24, kt_25, kt_31, kt_32, kt_40, kt_50, kt_60, kt_63, kt_100, kt_120, kt_255, kt_300, kt_999999, kt_1000000, kt_m1, kt_m2, kt_m3, kt_m4, kt_m6, kt_m7, kt_m11, kt_m12, kt_m13, kt_m14, kt_m100] at c6); (try simp only [jlt, jle, jeq, kt_0, kt_1, kt_2, kt_3, kt_4, kt_5, kt_6, kt_7, kt_8, kt_9, kt_10, kt_11, kt_12, kt_13, kt_15, kt_16, kt_19, kt_20, kt_24, kt_25, kt_31, kt_32, kt_40, kt_50, kt_60, kt_63, kt_100, kt_120, kt_255, kt_300, kt_999999, kt_1000000, kt_m1, kt_m2, kt_m3, kt_m4, kt_m6, kt_m7, kt_m11, kt_m12, kt_m13, kt_m14, kt_m100] at c8); (try simp only [jlt, jle, jeq, kt_0, kt_1, kt_2, kt_3, kt_4, kt_5, kt_6, kt_7, kt_8, kt_9, kt_10, kt_11, kt_12, kt_13, kt_15, kt_16, kt_19, kt_20, kt_24, kt_25, kt_31, kt_32, kt_40, kt_50, kt_60, kt_63, kt_100, kt_120, kt_255, kt_300, kt_999999, kt_1000000, kt_m1, kt_m2, kt_m3, kt_m4, kt_m6, kt_m7, kt_m11, kt_m12, kt_m13, kt_m14, kt_m100] at c10); (try simp only [jlt, jle, jeq, kt_0, kt_1, kt_2, kt_3, kt_4, kt_5, kt_6, kt_7, kt_8, kt_9, kt_10, kt_11, kt_12, kt_13, kt_15, kt_16, kt_19, kt_20, kt_24, kt_25, kt_31, kt_32, kt_40, kt_50, kt_60, kt_63, kt_100, kt_120, kt_255, kt_300, kt_999999, kt_1000000, kt_m1, kt_m2, kt_m3, kt_m4, kt_m6, kt_m7, kt_m11, kt_m12, kt_m13, kt_m14, kt_m100] at c12); (try simp only [kt_0, kt_1, kt_2, kt_3, kt_4, kt_5, kt_6, kt_7, kt_8, kt_9, kt_10, kt_11, kt_12, kt_13, kt_15, kt_16, kt_19, kt_20, kt_24, kt_25, kt_31, kt_32, kt_40, kt_50, kt_60, kt_63, kt_100, kt_120, kt_255, kt_300, kt_999999, kt_1000000, kt_m1, kt_m2, kt_m3, kt_m4, kt_m6, kt_m7, kt_m11, kt_m12, kt_m13, kt_m14, kt_m100]); omega)
                  simp only [jeq, kt_0, kt_1, kt_2, kt_3, kt_4, kt_5, kt_6, kt_7, kt_8, kt_9, kt_10, kt_11, kt_12, kt_13, kt_15, kt_16, kt_19, kt_20, kt_24, kt_25, kt_31, kt_32, kt_40, kt_50, kt_60, kt_63, kt_100, kt_120, kt_255, kt_300, kt_999999, kt_1000000, kt_m1, kt_m2, kt_m3, kt_m4, kt_m6, kt_m7, kt_m11, kt_m12, kt_m13, kt_m14, kt_m100]; clear hk; omega
                have hal : (1 ≤ n.toInt ∧ n.toInt ≤ 5) ∧ (0 ≤ a.toInt ∧ a.toInt ≤ 255) ∧ (0 ≤ b.toInt ∧ b.toInt ≤ 255) ∧ (0 ≤ c.toInt ∧ c.toInt ≤ 255) ∧ (0 ≤ d.toInt ∧ d.toInt ≤ 255) ∧ (0 ≤ e.toInt ∧ e.toInt ≤ 255) := ⟨(by (try simp only [jlt, jle, jeq, kt_0, kt_1, kt_2, kt_3, kt_4, kt_5, kt_6, kt_7, kt_8, kt_9, kt_10, kt_11, kt_12, kt_13, kt_15, kt_16, kt_19, kt_20, kt_24, kt_25, kt_31, kt_32, kt_40, kt_50, kt_60, kt_63, kt_100, kt_120, kt_255, kt_300, kt_999999, kt_1000000, kt_m1, kt_m2, kt_m3, kt_m4, kt_m6, kt_m7, kt_m11, kt_m12, kt_m13, kt_m14, kt_m100] at c1); (try simp only [jlt, jle, jeq, kt_0, kt_1, kt_2, kt_3, kt_4, kt_5, kt_6, kt_7, kt_8, kt_9, kt_10, kt_11, kt_12, kt_13, kt_15, kt_16, kt_19, kt_20, kt_24, kt_25, kt_31, kt_32, kt_40, kt_50, kt_60, kt_63, kt_100, kt_120, kt_255, kt_300, kt_999999, kt_1000000, kt_m1, kt_m2, kt_m3, kt_m4, kt_m6, kt_m7, kt_m11, kt_m12, kt_m13, kt_m14, kt_m100] at c2); (try simp only [jlt, jle, jeq, kt_0, kt_1, kt_2, kt_3, kt_4, kt_5, kt_6, kt_7, kt_8, kt_9, kt_10, kt_11, kt_12, kt_13, kt_15, kt_16, kt_19, kt_20, kt_24, kt_25, kt_31, kt_32, kt_40, kt_50, kt_60, kt_63, kt_100, kt_120, kt_255, kt_300, kt_999999, kt_1000000, kt_m1, kt_m2, kt_m3, kt_m4, kt_m6, kt_m7, kt_m11, kt_m12, kt_m13, kt_m14, kt_m100] at c4); (try simp only [jlt, jle, jeq, kt_0, kt_1, kt_2, kt_3, kt_4, kt_5, kt_6, kt_7, kt_8, kt_9, kt_10, kt_11, kt_12, kt_13, kt_15, kt_16, kt_19, kt_20, kt_24, kt_25, kt_31, kt_32, kt_40, kt_50, kt_60, kt_63, kt_100, kt_120, kt_255, kt_300, kt_999999, kt_1000000, kt_m1, kt_m2, kt_m3, kt_m4, kt_m6, kt_m7, kt_m11, kt_m12, kt_m13, kt_m14, kt_m100] at c6); (try simp only [jlt, jle, jeq, kt_0, kt_1, kt_2, kt_3, kt_4, kt_5, kt_6, kt_7, kt_8, kt_9, kt_10, kt_11, kt_12, kt_13, kt_15, kt_16, kt_19, kt_20, kt_24, kt_25, kt_31, kt_32, kt_40, kt_50, kt_60, kt_63, kt_100, kt_120, kt_255, kt_300, kt_999999, kt_1000000, kt_m1, kt_m2, kt_m3, kt_m4, kt_m6, kt_m7, kt_m11, kt_m12, kt_m13, kt_m14, kt_m100] at c8); (try simp only [jlt, jle, jeq, kt_0, kt_1, kt_2, kt_3, kt_4, kt_5, kt_6, kt_7, kt_8, kt_9, kt_10, kt_11, kt_12, kt_13, kt_15, kt_16, kt_19, kt_20, kt_24, kt_25, kt_31, kt_32, kt_40, kt_50, kt_60, kt_63, kt_100, kt_120, kt_255, kt_300, kt_999999, kt_1000000, kt_m1, kt_m2, kt_m3, kt_m4, kt_m6, kt_m7, kt_m11, kt_m12, kt_m13, kt_m14, kt_m100] at c10); (try simp only [jlt, jle, jeq, kt_0, kt_1, kt_2, kt_3, kt_4, kt_5, kt_6, kt_7, kt_8, kt_9, kt_10, kt_11, kt_12, kt_13, kt_15, kt_16, kt_19, kt_20, kt_24, kt_25, kt_31, kt_32, kt_40, kt_50, kt_60, kt_63, kt_100, kt_120, kt_255, kt_300, kt_999999, kt_1000000, kt_m1, kt_m2, kt_m3, kt_m4, kt_m6, kt_m7, kt_m11, kt_m12, kt_m13, kt_m14, kt_m100] at c12); show 1 ≤ n.toInt ∧ n.toInt ≤ 5; (try simp only [kt_0, kt_1, kt_2, kt_3, kt_4, kt_5, kt_6, kt_7, kt_8, kt_9, kt_10, kt_11, kt_12, kt_13, kt_15, kt_16, kt_19, kt_20, kt_24, kt_25, kt_31, kt_32, kt_40, kt_50, kt_60, kt_63, kt_100, kt_120, kt_255, kt_300, kt_999999, kt_1000000, kt_m1, kt_m2, kt_m3, kt_m4, kt_m6, kt_m7, kt_m11, kt_m12, kt_m13, kt_m14, kt_m100]); omega), (by (try simp only [jlt, jle, jeq, kt_0, kt_1, kt_2, kt_3, kt_4, kt_5, kt_6, kt_7, kt_8, kt_9, kt_10, kt_11, kt_12, kt_13, kt_15, kt_16, kt_19, kt_20, kt_24, kt_25, kt_31, kt_32, kt_40, kt_50, kt_60, kt_63, kt_100, kt_120, kt_255, kt_300, kt_999999, kt_1000000, kt_m1, kt_m2, kt_m3, kt_m4, kt_m6, kt_m7, kt_m11, kt_m12, kt_m13, kt_m14, kt_m100] at c1); (try simp only [jlt, jle, jeq, kt_0, kt_1, kt_2, kt_3, kt_4, kt_5, kt_6, kt_7, kt_8, kt_9, kt_10, kt_11, kt_12, kt_13, kt_15, kt_16, kt_19, kt_20, kt_24, kt_25, kt_31, kt_32, kt_40, kt_50, kt_60, kt_63, kt_100, kt_120, kt_255, kt_300, kt_999999, kt_1000000, kt_m1, kt_m2, kt_m3, kt_m4, kt_m6, kt_m7, kt_m11, kt_m12, kt_m13, kt_m14, kt_m100] at c2); (try simp only [jlt, jle, jeq, kt_0, kt_1, kt_2, kt_3, kt_4, kt_5, kt_6, kt_7, kt_8, kt_9, kt_10, kt_11, kt_12, kt_13, kt_15, kt_16, kt_19, kt_20, kt_24, kt_25, kt_31, kt_32, kt_40, kt_50, kt_60, kt_63, kt_100, kt_120, kt_255, kt_300, kt_999999, kt_1000000, kt_m1, kt_m2, kt_m3, kt_m4, kt_m6, kt_m7, kt_m11, kt_m12, kt_m13, kt_m14, kt_m100] at c4); (try simp only [jlt, jle, jeq, kt_0, kt_1, kt_2, kt_3, kt_4, kt_5, kt_6, kt_7, kt_8, kt_9, kt_10, kt_11, kt_12, kt_13, kt_15, kt_16, kt_19, kt_20, kt_24, kt_25, kt_31, kt_32, kt_40, kt_50, kt_60, kt_63, kt_100, kt_120, kt_255, kt_300, kt_999999, kt_1000000, kt_m1, kt_m2, kt_m3, kt_m4, kt_m6, kt_m7, kt_m11, kt_m12, kt_m13, kt_m14, kt_m100] at c6); (try simp only [jlt, jle, jeq, kt_0, kt_1, kt_2, kt_3, kt_4, kt_5, kt_6, kt_7, kt_8, kt_9, kt_10, kt_11, kt_12, kt_13, kt_15, kt_16, kt_19, kt_20, kt_24, kt_25, kt_31, kt_32, kt_40, kt_50, kt_60, kt_63, kt_100, kt_120, kt_255, kt_300, kt_999999, kt_1000000, kt_m1, kt_m2, kt_m3, kt_m4, kt_m6, kt_m7, kt_m11, kt_m12, kt_m13, kt_m14, kt_m100] at c8); (try simp only [jlt, jle, jeq, kt_0, kt_1, kt_2, kt_3, kt_4, kt_5, kt_6, kt_7, kt_8, kt_9, kt_10, kt_11, kt_12, kt_13, kt_15, kt_16, kt_19, kt_20, kt_24, kt_25, kt_31, kt_32, kt_40, kt_50, kt_60, kt_63, kt_100, kt_120, kt_255, kt_300, kt_999999, kt_1000000, kt_m1, kt_m2, kt_m3, kt_m4, kt_m6, kt_m7, kt_m11, kt_m12, kt_m13, kt_m14, kt_m100] at c10); (try simp only [jlt, jle, jeq, kt_0, kt_1, kt_2, kt_3, kt_4, kt_5, kt_6, kt_7, kt_8, kt_9, kt_10, kt_11, kt_12, kt_13, kt_15, kt_16, kt_19, kt_20, kt_24, kt_25, kt_31, kt_32, kt_40, kt_50, kt_60, kt_63, kt_100, kt_120, kt_255, kt_300, kt_999999, kt_1000000, kt_m1, kt_m2, kt_m3, kt_m4, kt_m6, kt_m7, kt_m11, kt_m12, kt_m13, kt_m14, kt_m100] at c12); show 0 ≤ a.toInt ∧ a.toInt ≤ 255; (try simp only [kt_0, kt_1, kt_2, kt_3, kt_4, kt_5, kt_6, kt_7, kt_8, kt_9, kt_10, kt_11, kt_12, kt_13, kt_15, kt_16, kt_19, kt_20, kt_24, kt_25, kt_31, kt_32, kt_40, kt_50, kt_60, kt_63, kt_100, kt_120, kt_255, kt_300, kt_999999, kt_1000000, kt_m1, kt_m2, kt_m3, kt_m4, kt_m6, kt_m7, kt_m11, kt_m12, kt_m13, kt_m14, kt_m100]); omega), (by (try simp only [jlt, jle, jeq, kt_0, kt_1, kt_2, kt_3, kt_4, kt_5, kt_6, kt_7, kt_8, kt_9, kt_10, kt_11, kt_12, kt_13, kt_15, kt_16, kt_19, kt_20, kt_24, kt_25, kt_31, kt_32, kt_40, kt_50, kt_60, kt_63, kt_100, kt_120, kt_255, kt_300, kt_999999, kt_1000000, kt_m1, kt_m2, kt_m3, kt_m4, kt_m6, kt_m7, kt_m11, kt_m12, kt_m13, kt_m14, kt_m100] at c1); (try simp only [jlt, jle, jeq, kt_0, kt_1, kt_2, kt_3, kt_4, kt_5, kt_6, kt_7, kt_8, kt_9, kt_10, kt_11, kt_12, kt_13, kt_15, kt_16, kt_19, kt_20, kt_24, kt_25, kt_31, kt_32, kt_40, kt_50, kt_60, kt_63, kt_100, kt_120, kt_255, kt_300, kt_999999, kt_1000000, kt_m1, kt_m2, kt_m3, kt_m4, kt_m6, kt_m7, kt_m11, kt_m12, kt_m13, kt_m14, kt_m100] at c2); (try simp only [jlt, jle, jeq, kt_0, kt_1, kt_2, kt_3, kt_4, kt_5, kt_6, kt_7, kt_8, kt_9, kt_10, kt_11, kt_12, kt_13, kt_15, kt_16, kt_19, kt_20, kt_24, kt_25, kt_31, kt_32, kt_40, kt_50, kt_60, kt_63, kt_100, kt_120, kt_255, kt_300, kt_999999, kt_1000000, kt_m1, kt_m2, kt_m3, kt_m4, kt_m6, kt_m7, kt_m11, kt_m12, kt_m13, kt_m14, kt_m100] at c4); (try simp only [jlt, jle, jeq, kt_0, kt_1, kt_2, kt_3, kt_4, kt_5, kt_6, kt_7, kt_8, kt_9, kt_10, kt_11, kt_12, kt_13, kt_15, kt_16, kt_19, kt_20, kt_24, kt_25, kt_31, kt_32, kt_40, kt_50, kt_60, kt_63, kt_100, kt_120, kt_255, kt_300, kt_999999, kt_1000000, kt_m1, kt_m2, kt_m3, kt_m4, kt_m6, kt_m7, kt_m11, kt_m12, kt_m13, kt_m14, kt_m100] at c6); (try simp only [jlt, jle, jeq, kt_0, kt_1, kt_2, kt_3, kt_4, kt_5, kt_6, kt_7, kt_8, kt_9, kt_10, kt_11, kt_12, kt_13, kt_15, kt_16, kt_19, kt_20, kt_24, kt_25, kt_31, kt_32, kt_40, kt_50, kt_60, kt_63, kt_100, kt_120, kt_255, kt_300, kt_999999, kt_1000000, kt_m1, kt_m2, kt_m3, kt_m4, kt_m6, kt_m7, kt_m11, kt_m12, kt_m13, kt_m14, kt_m100] at c8); (try simp only [jlt, jle, jeq, kt_0, kt_1, kt_2, kt_3, kt_4, kt_5, kt_6, kt_7, kt_8, kt_9, kt_10, kt_11, kt_12, kt_13, kt_15, kt_16, kt_19, kt_20, kt_24, kt_25, kt_31, kt_32, kt_40, kt_50, kt_60, kt_63, kt_100, kt_120, kt_255, kt_300, kt_999999, kt_1000000, kt_m1, kt_m2, kt_m3, kt_m4, kt_m6, kt_m7, kt_m11, kt_m12, kt_m13, kt_m14, kt_m100] at c10); (try simp only [jlt, jle, jeq, kt_0, kt_1, kt_2, kt_3, kt_4, kt_5, kt_6, kt_7, kt_8, kt_9, kt_10, kt_11, kt_12, kt_13, kt_15, kt_16, kt_19, kt_20, kt_24, kt_25, kt_31, kt_32, kt_40, kt_50, kt_60, kt_63, kt_100, kt_120, kt_255, kt_300, kt_999999, kt_1000000, kt_m1, kt_m2, kt_m3, kt_m4, kt_m6, kt_m7, kt_m11, kt_m12, kt_m13, kt_m14, kt_m100] at c12); show 0 ≤ b.toInt ∧ b.toInt ≤ 255; (try simp only [kt_0, kt_1, kt_2, kt_3, kt_4, kt_5, kt_6, kt_7, kt_8, kt_9, kt_10, kt_11, kt_12, kt_13, kt_15, kt_16, kt_19, kt_20, kt_24, kt_25, kt_31, kt_32, kt_40, kt_50, kt_60, kt_63, kt_100, kt_120, kt_255, kt_300, kt_999999, kt_1000000, kt_m1, kt_m2, kt_m3, kt_m4, kt_m6, kt_m7, kt_m11, kt_m12, kt_m13, kt_m14, kt_m100]); omega), (by (try simp only [jlt, jle, jeq, kt_0, kt_1, kt_2, kt_3, kt_4, kt_5, kt_6, kt_7, kt_8, kt_9, kt_10, kt_11, kt_12, kt_13, kt_15, kt_16, kt_19, kt_20, kt_24, kt_25, kt_31, kt_32, kt_40, kt_50, kt_60, kt_63, kt_100, kt_120, kt_255, kt_300, kt_999999, kt_1000000, kt_m1, kt_m2, kt_m3, kt_m4, kt_m6, kt_m7, kt_m11, kt_m12, kt_m13, kt_m14, kt_m100] at c1); (try simp only [jlt, jle, jeq, kt_0, kt_1, kt_2, kt_3, kt_4, kt_5, kt_6, kt_7, kt_8, kt_9, kt_10, kt_11, kt_12, kt_13, kt_15, kt_16, kt_19, kt_20, kt_24, kt_25, kt_31, kt_32, kt_40, kt_50, kt_60, kt_63, kt_100, kt_120, kt_255, kt_300, kt_999999, kt_1000000, kt_m1, kt_m2, kt_m3, kt_m4, kt_m6, kt_m7, kt_m11, kt_m12, kt_m13, kt_m14, kt_m100] at c2); (try simp only [jlt, jle, jeq, kt_0, kt_1, kt_2, kt_3, kt_4, kt_5, kt_6, kt_7, kt_8, kt_9, kt_10, kt_11, kt_12, kt_13, kt_15, kt_16, kt_19, kt_20, kt_24, kt_25, kt_31, kt_32, kt_40, kt_50, kt_60, kt_63, kt_100, kt_120, kt_255, kt_300, kt_999999, kt_1000000, kt_m1, kt_m2, kt_m3, kt_m4, kt_m6, kt_m7, kt_m11, kt_m12, kt_m13, kt_m14, kt_m100] at c4); (try simp only [jlt, jle, jeq, kt_0, kt_1, kt_2, kt_3, kt_4, kt_5, kt_6, kt_7, kt_8, kt_9, kt_10, kt_11, kt_12, kt_13, kt_15, kt_16, kt_19, kt_20, kt_24, kt_25, kt_31, kt_32, kt_40, kt_50, kt_60, kt_63, kt_100, kt_120, kt_255, kt_300, kt_999999, kt_1000000, kt_m1, kt_m2, kt_m3, kt_m4, kt_m6, kt_m7, kt_m11, kt_m12, kt_m13, kt_m14, kt_m100] at c6); (try simp only [jlt, jle, jeq, kt_0, kt_1, kt_2, kt_3, kt_4, kt_5, kt_6, kt_7, kt_8, kt_9, kt_10, kt_11, kt_12, kt_13, kt_15, kt_16, kt_19, kt_20, kt_24, kt_25, kt_31, kt_32, kt_40, kt_50, kt_60, kt_63, kt_100, kt_120, kt_255, kt_300, kt_999999, kt_1000000, kt_m1, kt_m2, kt_m3, kt_m4, kt_m6, kt_m7, kt_m11, kt_m12, kt_m13, kt_m14, kt_m100] at c8); (try simp only [jlt, jle, jeq, kt_0, kt_1, kt_2, kt_3, kt_4, kt_5, kt_6, kt_7, kt_8, kt_9, kt_10, kt_11, kt_12, kt_13, kt_15, kt_16, kt_19, kt_20, kt_24, kt_25, kt_31, kt_32, kt_40, kt_50, kt_60, kt_63, kt_100, kt_120, kt_255, kt_300, kt_999999, kt_1000000, kt_m1, kt_m2, kt_m3, kt_m4, kt_m6, kt_m7, kt_m11, kt_m12, kt_m13, kt_m14, kt_m100] at c10); (try simp only [jlt, jle, jeq, kt_0, kt_1, kt_2, kt_3, kt_4, kt_5, kt_6, kt_7, kt_8, kt_9, kt_10, kt_11, kt_12, kt_13, kt_15, kt_16, kt_19, kt_20, kt_24, kt_25, kt_31, kt_32, kt_40, kt_50, kt_60, kt_63, kt_100, kt_120, kt_255, kt_300, kt_999999, kt_1000000, kt_m1, kt_m2, kt_m3, kt_m4, kt_m6, kt_m7, kt_m11, kt_m12, kt_m13, kt_m14, kt_m100] at c12); show 0 ≤ c.toInt ∧ c.toInt ≤ 255; (try simp only [kt_0, kt_1, kt_2, kt_3, kt_4, kt_5, kt_6, kt_7, kt_8, kt_9, kt_10, kt_11, kt_12, kt_13, kt_15, kt_16, kt_19, kt_20, kt_24, kt_25, kt_31, kt_32, kt_40, kt_50, kt_60, kt_63, kt_100, kt_120, kt_255, kt_300, kt_999999, kt_1000000, kt_m1, kt_m2, kt_m3, kt_m4, kt_m6, kt_m7, kt_m11, kt_m12, kt_m13, kt_m14, kt_m100]); omega), (by (try simp only [jlt, jle, jeq, kt_0, kt_1, kt_2, kt_3, kt_4, kt_5, kt_6, kt_7, kt_8, kt_9, kt_10, kt_11, kt_12, kt_13, kt_15, kt_16, kt_19, kt_20, kt_24, kt_25, kt_31, kt_32, kt_40, kt_50, kt_60, kt_63, kt_100, kt_120, kt_255, kt_300, kt_999999, kt_1000000, kt_m1, kt_m2, kt_m3, kt_m4, kt_m6, kt_m7, kt_m11, kt_m12, kt_m13, kt_m14, kt_m100] at c1); (try simp only [jlt, jle, jeq, kt_0, kt_1, kt_2, kt_3, kt_4, kt_5, kt_6, kt_7, kt_8, kt_9, kt_10, kt_11, kt_12, kt_13, kt_15, kt_16, kt_19, kt_20, kt_24, kt_25, kt_31, kt_32, kt_40, kt_50, kt_60, kt_63, kt_100, kt_120, kt_255, kt_300, kt_999999, kt_1000000, kt_m1, kt_m2, kt_m3, kt_m4, kt_m6, kt_m7, kt_m11, kt_m12, kt_m13, kt_m14, kt_m100] at c2); (try simp only [jlt, jle, jeq, kt_0, kt_1, kt_2, kt_3, kt_4, kt_5, kt_6, kt_7, kt_8, kt_9, kt_10, kt_11, kt_12, kt_13, kt_15, kt_16, kt_19, kt_20, kt_24, kt_25, kt_31, kt_32, kt_40, kt_50, kt_60, kt_63, kt_100, kt_120, kt_255, kt_300, kt_999999, kt_1000000, kt_m1, kt_m2, kt_m3, kt_m4, kt_m6, kt_m7, kt_m11, kt_m12, kt_m13, kt_m14, kt_m100] at c4); (try simp only [jlt, jle, jeq, kt_0, kt_1, kt_2, kt_3, kt_4, kt_5, kt_6, kt_7, kt_8, kt_9, kt_10, kt_11, kt_12, kt_13, kt_15, kt_16, kt_19, kt_20, kt_24, kt_25, kt_31, kt_32, kt_40, kt_50, kt_60, kt_63, kt_100, kt_120, kt_255, kt_300, kt_999999, kt_1000000, kt_m1, kt_m2, kt_m3, kt_m4, kt_m6, kt_m7, kt_m11, kt_m12, kt_m13, kt_m14, kt_m100] at c6); (try simp only [jlt, jle, jeq, kt_0, kt_1, kt_2, kt_3, kt_4, kt_5, kt_6, kt_7, kt_8, kt_9, kt_10, kt_11, kt_12, kt_13, kt_15, kt_16, kt_19, kt_20, kt_24, kt_25, kt_31, kt_32, kt_40, kt_50, kt_60, kt_63, kt_100, kt_120, kt_255, kt_300, kt_999999, kt_1000000, kt_m1, kt_m2, kt_m3, kt_m4, kt_m6, kt_m7, kt_m11, kt_m12, kt_m13, kt_m14, kt_m100] at c8); (try simp only [jlt, jle, jeq, kt_0, kt_1, kt_2, kt_3, kt_4, kt_5, kt_6, kt_7, kt_8, kt_9, kt_10, kt_11, kt_12, kt_13, kt_15, kt_16, kt_19, kt_20, kt_24, kt_25, kt_31, kt_32, kt_40, kt_50, kt_60, kt_63, kt_100, kt_120, kt_255, kt_300, kt_999999, kt_1000000, kt_m1, kt_m2, kt_m3, kt_m4, kt_m6, kt_m7, kt_m11, kt_m12, kt_m13, kt_m14, kt_m100] at c10); (try simp only [jlt, jle, jeq, kt_0, kt_1, kt_2, kt_3, kt_4, kt_5, kt_6, kt_7, kt_8, kt_9, kt_10, kt_11, kt_12, kt_13, kt_15, kt_16, kt_19, kt_20, kt_24, kt_25, kt_31, kt_32, kt_40, kt_50, kt_60, kt_63, kt_100, kt_120, kt_255, kt_300, kt_999999, kt_1000000, kt_m1, kt_m2, kt_m3, kt_m4, kt_m6, kt_m7, kt_m11, kt_m12, kt_m13, kt_m14, kt_m100] at c12); show 0 ≤ d.toInt ∧ d.toInt ≤ 255; (try simp only [kt_0, kt_1, kt_2, kt_3, kt_4, kt_5, kt_6, kt_7, kt_8, kt_9, kt_10, kt_11, kt_12, kt_13, kt_15, kt_16, kt_19, kt_20, kt_24, kt_25, kt_31, kt_32, kt_40, kt_50, kt_60, kt_63, kt_100, kt_120, kt_255, kt_300, kt_999999, kt_1000000, kt_m1, kt_m2, kt_m3, kt_m4, kt_m6, kt_m7, kt_m11, kt_m12, kt_m13, kt_m14, kt_m100]); omega), (by (try simp only [jlt, jle, jeq, kt_0, kt_1, kt_2, kt_3, kt_4, kt_5, kt_6, kt_7, kt_8, kt_9, kt_10, kt_11, kt_12, kt_13, kt_15, kt_16, kt_19, kt_20, kt_24, kt_25, kt_31, kt_32, kt_40, kt_50, kt_60, kt_63, kt_100, kt_120, kt_255, kt_300, kt_999999, kt_1000000, kt_m1, kt_m2, kt_m3, kt_m4, kt_m6, kt_m7, kt_m11, kt_m12, kt_m13, kt_m14, kt_m100] at c1); (try simp only [jlt, jle, jeq, kt_0, kt_1, kt_2, kt_3, kt_4, kt_5, kt_6, kt_7, kt_8, kt_9, kt_10, kt_11, kt_12, kt_13, kt_15, kt_16, kt_19, kt_20, kt_24, kt_25, kt_31, kt_32, kt_40, kt_50, kt_60, kt_63, kt_100, kt_120, kt_255, kt_300, kt_999999, kt_1000000, kt_m1, kt_m2, kt_m3, kt_m4, kt_m6, kt_m7, kt_m11, kt_m12, kt_m13, kt_m14, kt_m100] at c2); (try simp only [jlt, jle, jeq, kt_0, kt_1, kt_2, kt_3, kt_4, kt_5, kt_6, kt_7, kt_8, kt_9, kt_10, kt_11, kt_12, kt_13, kt_15, kt_16, kt_19, kt_20, kt_24, kt_25, kt_31, kt_32, kt_40, kt_50, kt_60, kt_63, kt_100, kt_120, kt_255, kt_300, kt_999999, kt_1000000, kt_m1, kt_m2, kt_m3, kt_m4, kt_m6, kt_m7, kt_m11, kt_m12, kt_m13, kt_m14, kt_m100] at c4); (try simp only [jlt, jle, jeq, kt_0, kt_1, kt_2, kt_3, kt_4, kt_5, kt_6, kt_7, kt_8, kt_9, kt_10, kt_11, kt_12, kt_13, kt_15, kt_16, kt_19, kt_20, kt_24, kt_25, kt_31, kt_32, kt_40, kt_50, kt_60, kt_63, kt_100, kt_120, kt_255, kt_300, kt_999999, kt_1000000, kt_m1, kt_m2, kt_m3, kt_m4, kt_m6, kt_m7, kt_m11, kt_m12, kt_m13, kt_m14, kt_m100] at c6); (try simp only [jlt, jle, jeq, kt_0, kt_1, kt_2, kt_3, kt_4, kt_5, kt_6, kt_7, kt_8, kt_9, kt_10, kt_11, kt_12, kt_13, kt_15, kt_16, kt_19, kt_20, kt_24, kt_25, kt_31, kt_32, kt_40, kt_50, kt_60, kt_63, kt_100, kt_120, kt_255, kt_300, kt_999999, kt_1000000, kt_m1, kt_m2, kt_m3, kt_m4, kt_m6, kt_m7, kt_m11, kt_m12, kt_m13, kt_m14, kt_m100] at c8); (try simp only [jlt, jle, jeq, kt_0, kt_1, kt_2, kt_3, kt_4, kt_5, kt_6, kt_7, kt_8, kt_9, kt_10, kt_11, kt_12, kt_13, kt_15, kt_16, kt_19, kt_20, kt_24, kt_25, kt_31, kt_32, kt_40, kt_50, kt_60, kt_63, kt_100, kt_120, kt_255, kt_300, kt_999999, kt_1000000, kt_m1, kt_m2, kt_m3, kt_m4, kt_m6, kt_m7, kt_m11, kt_m12, kt_m13, kt_m14, kt_m100] at c10); (try simp only [jlt, jle, jeq, kt_0, kt_1, kt_2, kt_3, kt_4, kt_5, kt_6, kt_7, kt_8, kt_9, kt_10, kt_11, kt_12, kt_13, kt_15, kt_16, kt_19, kt_20, kt_24, kt_25, kt_31, kt_32, kt_40, kt_50, kt_60, kt_63, kt_100, kt_120, kt_255, kt_300, kt_999999, kt_1000000, kt_m1, kt_m2, kt_m3, kt_m4, kt_m6, kt_m7, kt_m11, kt_m12, kt_m13, kt_m14, kt_m100] at c12); show 0 ≤ e.toInt ∧ e.toInt ≤ 255; (try simp only [kt_0, kt_1, kt_2, kt_3, kt_4, kt_5, kt_6, kt_7, kt_8, kt_9, kt_10, kt_11, kt_12, kt_13, kt_15, kt_16, kt_19, kt_20, kt_24, kt_25, kt_31, kt_32, kt_40, kt_50, kt_60, kt_63, kt_100, kt_120, kt_255, kt_300, kt_999999, kt_1000000, kt_m1, kt_m2, kt_m3, kt_m4, kt_m6, kt_m7, kt_m11, kt_m12, kt_m13, kt_m14, kt_m100]); omega)⟩
                have hres : some (Value.int n) = some (Value.int (an_feed n a b c d e)) := jip hal
                clear hal c1 c2 c4 c6 c8 c10 c12
                rcases hn with rfl | rfl | rfl | rfl | rfl
                · show JJ g w 51 [(0, .ref x), (1, .int 1), (2, .int a), (3, .int b), (4, .int c), (5, .int d), (6, .int e)] []
                  refine j_blk 55 [(0, .ref x), (1, .int 1), (2, .int a), (3, .int b), (4, .int c), (5, .int d), (6, .int e)] [.ref x, .int 120, .int 1] C k_c_CS_feed_51_3 rfl ?_
                  refine j_get C d_c_CS_feed_55 fg_CS_51 hx h1 ?_
                  refine j_blk 59 [(0, .ref x), (1, .int 1), (2, .int a), (3, .int b), (4, .int c), (5, .int d), (6, .int e)] [.int 120, .int 1] C k_c_CS_feed_58_1 rfl ?_
                  refine j_icmp_le (tgt := 65) C d_c_CS_feed_59 (by decide) (fun c13 => ?_) (fun c13 => absurd (by decide) c13)
                  refine j_blk 71 [(7, .int 0), (0, .ref x), (1, .int 1), (2, .int a), (3, .int b), (4, .int c), (5, .int d), (6, .int e)] [.int 1, .int 0] C k_c_CS_feed_65_4 rfl ?_
                  refine j_icmp_ge (tgt := 127) C d_c_CS_feed_71 (by decide) (fun c14 => absurd c14 (by decide)) (fun c14 => ?_)
                  refine j_blk 77 [(7, .int 0), (0, .ref x), (1, .int 1), (2, .int a), (3, .int b), (4, .int c), (5, .int d), (6, .int e)] [.int 0, .ref x] C k_c_CS_feed_74_2 rfl ?_
                  refine j_if_ne (tgt := 84) C d_c_CS_feed_77 (by decide) (fun c15 => absurd (by decide) c15) (fun c15 => ?_)
                  refine j_blk 118 [(7, .int 0), (0, .ref x), (1, .int 1), (2, .int a), (3, .int b), (4, .int c), (5, .int d), (6, .int e)] [.int a, .ref x] C k_c_CS_feed_80_2 rfl ?_
                  refine j_callV C Rm Y [.int a] [] (c_CS_append l D B H0 w x tp V (fun _ => 0) 0 a hx h0 h1 ht (by decide) (by decide)) cl_CS_55 (by rfl) (by rfl) hx d_c_CS_feed_118 rfl rfl (Nat.le_of_ble_eq_true rfl) ⟨by decide, by decide⟩ ⟨jroom hk.1 rfl, jroom hk.2 rfl⟩ (fun v16 w_6 pw_6 => ?_)
                  obtain ⟨rfl, hc_w_6, G_w_6, mx_w_6, mt_w_6⟩ := pw_6
                  have hk_w_6 := jkT hk hc_w_6
                  have fr_w_6 := jfrT fr0 G_w_6 (fun b e hb hv => ⟨(fun b e hb _ => Nat.ne_of_gt (Nat.lt_of_lt_of_le xq hb)) b e hb hv, (fun b e hb _ => Nat.ne_of_gt (Nat.lt_of_lt_of_le tq hb)) b e hb hv⟩)
                  show JJ g w_6 121 [(7, .int 0), (0, .ref x), (1, .int 1), (2, .int a), (3, .int b), (4, .int c), (5, .int d), (6, .int e)] []
                  refine j_blk 68 [(7, .int 1), (0, .ref x), (1, .int 1), (2, .int a), (3, .int b), (4, .int c), (5, .int d), (6, .int e)] [] C k_c_CS_feed_121_2 rfl ?_
                  refine j_blk 71 [(7, .int 1), (0, .ref x), (1, .int 1), (2, .int a), (3, .int b), (4, .int c), (5, .int d), (6, .int e)] [.int 1, .int 1] C k_c_CS_feed_68_2 rfl ?_
                  refine j_icmp_ge (tgt := 127) C d_c_CS_feed_71 (by decide) (fun c17 => ?_) (fun c17 => absurd (by decide) c17)
                  refine j_blk 128 [(7, .int 1), (0, .ref x), (1, .int 1), (2, .int a), (3, .int b), (4, .int c), (5, .int d), (6, .int e)] [.ref x] C k_c_CS_feed_127_1 rfl ?_
                  refine j_get C d_c_CS_feed_128 fg_CS_51 mx_w_6 rfl ?_
                  exact j_iret C Rm E d_c_CS_feed_131 ⟨hres, fr_w_6⟩ (jbnd hk_w_6.1 rfl) (jbnd hk_w_6.2 rfl)
                · show JJ g w 51 [(0, .ref x), (1, .int 2), (2, .int a), (3, .int b), (4, .int c), (5, .int d), (6, .int e)] []
                  refine j_blk 55 [(0, .ref x), (1, .int 2), (2, .int a), (3, .int b), (4, .int c), (5, .int d), (6, .int e)] [.ref x, .int 120, .int 2] C k_c_CS_feed_51_3 rfl ?_
                  refine j_get C d_c_CS_feed_55 fg_CS_51 hx h1 ?_
                  refine j_blk 59 [(0, .ref x), (1, .int 2), (2, .int a), (3, .int b), (4, .int c), (5, .int d), (6, .int e)] [.int 120, .int 2] C k_c_CS_feed_58_1 rfl ?_
                  refine j_icmp_le (tgt := 65) C d_c_CS_feed_59 (by decide) (fun c18 => ?_) (fun c18 => absurd (by decide) c18)
                  refine j_blk 71 [(7, .int 0), (0, .ref x), (1, .int 2), (2, .int a), (3, .int b), (4, .int c), (5, .int d), (6, .int e)] [.int 2, .int 0] C k_c_CS_feed_65_4 rfl ?_
                  refine j_icmp_ge (tgt := 127) C d_c_CS_feed_71 (by decide) (fun c19 => absurd c19 (by decide)) (fun c19 => ?_)
                  refine j_blk 77 [(7, .int 0), (0, .ref x), (1, .int 2), (2, .int a), (3, .int b), (4, .int c), (5, .int d), (6, .int e)] [.int 0, .ref x] C k_c_CS_feed_74_2 rfl ?_
                  refine j_if_ne (tgt := 84) C d_c_CS_feed_77 (by decide) (fun c20 => absurd (by decide) c20) (fun c20 => ?_)
                  refine j_blk 118 [(7, .int 0), (0, .ref x), (1, .int 2), (2, .int a), (3, .int b), (4, .int c), (5, .int d), (6, .int e)] [.int a, .ref x] C k_c_CS_feed_80_2 rfl ?_
                  refine j_callV C Rm Y [.int a] [] (c_CS_append l D B H0 w x tp V (fun _ => 0) 0 a hx h0 h1 ht (by decide) (by decide)) cl_CS_55 (by rfl) (by rfl) hx d_c_CS_feed_118 rfl rfl (Nat.le_of_ble_eq_true rfl) ⟨by decide, by decide⟩ ⟨jroom hk.1 rfl, jroom hk.2 rfl⟩ (fun v21 w_7 pw_7 => ?_)
                  obtain ⟨rfl, hc_w_7, G_w_7, mx_w_7, mt_w_7⟩ := pw_7
                  have hk_w_7 := jkT hk hc_w_7
                  have fr_w_7 := jfrT fr0 G_w_7 (fun b e hb hv => ⟨(fun b e hb _ => Nat.ne_of_gt (Nat.lt_of_lt_of_le xq hb)) b e hb hv, (fun b e hb _ => Nat.ne_of_gt (Nat.lt_of_lt_of_le tq hb)) b e hb hv⟩)
                  show JJ g w_7 121 [(7, .int 0), (0, .ref x), (1, .int 2), (2, .int a), (3, .int b), (4, .int c), (5, .int d), (6, .int e)] []
                  refine j_blk 68 [(7, .int 1), (0, .ref x), (1, .int 2), (2, .int a), (3, .int b), (4, .int c), (5, .int d), (6, .int e)] [] C k_c_CS_feed_121_2 rfl ?_
                  refine j_blk 71 [(7, .int 1), (0, .ref x), (1, .int 2), (2, .int a), (3, .int b), (4, .int c), (5, .int d), (6, .int e)] [.int 2, .int 1] C k_c_CS_feed_68_2 rfl ?_
                  refine j_icmp_ge (tgt := 127) C d_c_CS_feed_71 (by decide) (fun c22 => absurd c22 (by decide)) (fun c22 => ?_)
                  refine j_blk 77 [(7, .int 1), (0, .ref x), (1, .int 2), (2, .int a), (3, .int b), (4, .int c), (5, .int d), (6, .int e)] [.int 1, .ref x] C k_c_CS_feed_74_2 rfl ?_
                  refine j_if_ne (tgt := 84) C d_c_CS_feed_77 (by decide) (fun c23 => ?_) (fun c23 => absurd c23 (by decide))
                  refine j_blk 87 [(7, .int 1), (0, .ref x), (1, .int 2), (2, .int a), (3, .int b), (4, .int c), (5, .int d), (6, .int e)] [.int 1, .int 1, .ref x] C k_c_CS_feed_84_2 rfl ?_
                  refine j_icmp_ne (tgt := 94) C d_c_CS_feed_87 (by decide) (fun c24 => absurd (by decide) c24) (fun c24 => ?_)
                  refine j_blk 118 [(7, .int 1), (0, .ref x), (1, .int 2), (2, .int a), (3, .int b), (4, .int c), (5, .int d), (6, .int e)] [.int b, .ref x] C k_c_CS_feed_90_2 rfl ?_
                  refine j_callV C Rm Y [.int b] [] (c_CS_append l D B H0 w_7 x tp (updV V 1 (.int 1)) (upd (fun _ => 0) 0 a) 1 b mx_w_7 h0 rfl mt_w_7 (by decide) (by decide)) cl_CS_55 (by rfl) (by rfl) mx_w_7 d_c_CS_feed_118 rfl rfl (Nat.le_of_ble_eq_true rfl) ⟨by decide, by decide⟩ ⟨jroom hk_w_7.1 rfl, jroom hk_w_7.2 rfl⟩ (fun v25 w_8 pw_8 => ?_)
                  obtain ⟨rfl, hc_w_8, G_w_8, mx_w_8, mt_w_8⟩ := pw_8
                  have hk_w_8 := jkT hk_w_7 hc_w_8
                  have fr_w_8 := jfrT fr_w_7 G_w_8 (fun b e hb hv => ⟨(fun b e hb _ => Nat.ne_of_gt (Nat.lt_of_lt_of_le xq hb)) b e hb hv, (fun b e hb _ => Nat.ne_of_gt (Nat.lt_of_lt_of_le tq hb)) b e hb hv⟩)
                  show JJ g w_8 121 [(7, .int 1), (0, .ref x), (1, .int 2), (2, .int a), (3, .int b), (4, .int c), (5, .int d), (6, .int e)] []
                  refine j_blk 68 [(7, .int 2), (0, .ref x), (1, .int 2), (2, .int a), (3, .int b), (4, .int c), (5, .int d), (6, .int e)] [] C k_c_CS_feed_121_2 rfl ?_
                  refine j_blk 71 [(7, .int 2), (0, .ref x), (1, .int 2), (2, .int a), (3, .int b), (4, .int c), (5, .int d), (6, .int e)] [.int 2, .int 2] C k_c_CS_feed_68_2 rfl ?_
                  refine j_icmp_ge (tgt := 127) C d_c_CS_feed_71 (by decide) (fun c26 => ?_) (fun c26 => absurd (by decide) c26)
                  refine j_blk 128 [(7, .int 2), (0, .ref x), (1, .int 2), (2, .int a), (3, .int b), (4, .int c), (5, .int d), (6, .int e)] [.ref x] C k_c_CS_feed_127_1 rfl ?_
                  refine j_get C d_c_CS_feed_128 fg_CS_51 mx_w_8 rfl ?_
                  exact j_iret C Rm E d_c_CS_feed_131 ⟨hres, fr_w_8⟩ (jbnd hk_w_8.1 rfl) (jbnd hk_w_8.2 rfl)
                · show JJ g w 51 [(0, .ref x), (1, .int 3), (2, .int a), (3, .int b), (4, .int c), (5, .int d), (6, .int e)] []
                  refine j_blk 55 [(0, .ref x), (1, .int 3), (2, .int a), (3, .int b), (4, .int c), (5, .int d), (6, .int e)] [.ref x, .int 120, .int 3] C k_c_CS_feed_51_3 rfl ?_
                  refine j_get C d_c_CS_feed_55 fg_CS_51 hx h1 ?_
                  refine j_blk 59 [(0, .ref x), (1, .int 3), (2, .int a), (3, .int b), (4, .int c), (5, .int d), (6, .int e)] [.int 120, .int 3] C k_c_CS_feed_58_1 rfl ?_
                  refine j_icmp_le (tgt := 65) C d_c_CS_feed_59 (by decide) (fun c27 => ?_) (fun c27 => absurd (by decide) c27)
                  refine j_blk 71 [(7, .int 0), (0, .ref x), (1, .int 3), (2, .int a), (3, .int b), (4, .int c), (5, .int d), (6, .int e)] [.int 3, .int 0] C k_c_CS_feed_65_4 rfl ?_
                  refine j_icmp_ge (tgt := 127) C d_c_CS_feed_71 (by decide) (fun c28 => absurd c28 (by decide)) (fun c28 => ?_)
                  refine j_blk 77 [(7, .int 0), (0, .ref x), (1, .int 3), (2, .int a), (3, .int b), (4, .int c), (5, .int d), (6, .int e)] [.int 0, .ref x] C k_c_CS_feed_74_2 rfl ?_
                  refine j_if_ne (tgt := 84) C d_c_CS_feed_77 (by decide) (fun c29 => absurd (by decide) c29) (fun c29 => ?_)
                  refine j_blk 118 [(7, .int 0), (0, .ref x), (1, .int 3), (2, .int a), (3, .int b), (4, .int c), (5, .int d), (6, .int e)] [.int a, .ref x] C k_c_CS_feed_80_2 rfl ?_
                  refine j_callV C Rm Y [.int a] [] (c_CS_append l D B H0 w x tp V (fun _ => 0) 0 a hx h0 h1 ht (by decide) (by decide)) cl_CS_55 (by rfl) (by rfl) hx d_c_CS_feed_118 rfl rfl (Nat.le_of_ble_eq_true rfl) ⟨by decide, by decide⟩ ⟨jroom hk.1 rfl, jroom hk.2 rfl⟩ (fun v30 w_9 pw_9 => ?_)
                  obtain ⟨rfl, hc_w_9, G_w_9, mx_w_9, mt_w_9⟩ := pw_9
                  have hk_w_9 := jkT hk hc_w_9
                  have fr_w_9 := jfrT fr0 G_w_9 (fun b e hb hv => ⟨(fun b e hb _ => Nat.ne_of_gt (Nat.lt_of_lt_of_le xq hb)) b e hb hv, (fun b e hb _ => Nat.ne_of_gt (Nat.lt_of_lt_of_le tq hb)) b e hb hv⟩)
                  show JJ g w_9 121 [(7, .int 0), (0, .ref x), (1, .int 3), (2, .int a), (3, .int b), (4, .int c), (5, .int d), (6, .int e)] []
                  refine j_blk 68 [(7, .int 1), (0, .ref x), (1, .int 3), (2, .int a), (3, .int b), (4, .int c), (5, .int d), (6, .int e)] [] C k_c_CS_feed_121_2 rfl ?_
                  refine j_blk 71 [(7, .int 1), (0, .ref x), (1, .int 3), (2, .int a), (3, .int b), (4, .int c), (5, .int d), (6, .int e)] [.int 3, .int 1] C k_c_CS_feed_68_2 rfl ?_
                  refine j_icmp_ge (tgt := 127) C d_c_CS_feed_71 (by decide) (fun c31 => absurd c31 (by decide)) (fun c31 => ?_)
                  refine j_blk 77 [(7, .int 1), (0, .ref x), (1, .int 3), (2, .int a), (3, .int b), (4, .int c), (5, .int d), (6, .int e)] [.int 1, .ref x] C k_c_CS_feed_74_2 rfl ?_
                  refine j_if_ne (tgt := 84) C d_c_CS_feed_77 (by decide) (fun c32 => ?_) (fun c32 => absurd c32 (by decide))
                  refine j_blk 87 [(7, .int 1), (0, .ref x), (1, .int 3), (2, .int a), (3, .int b), (4, .int c), (5, .int d), (6, .int e)] [.int 1, .int 1, .ref x] C k_c_CS_feed_84_2 rfl ?_
                  refine j_icmp_ne (tgt := 94) C d_c_CS_feed_87 (by decide) (fun c33 => absurd (by decide) c33) (fun c33 => ?_)
                  refine j_blk 118 [(7, .int 1), (0, .ref x), (1, .int 3), (2, .int a), (3, .int b), (4, .int c), (5, .int d), (6, .int e)] [.int b, .ref x] C k_c_CS_feed_90_2 rfl ?_
                  refine j_callV C Rm Y [.int b] [] (c_CS_append l D B H0 w_9 x tp (updV V 1 (.int 1)) (upd (fun _ => 0) 0 a) 1 b mx_w_9 h0 rfl mt_w_9 (by decide) (by decide)) cl_CS_55 (by rfl) (by rfl) mx_w_9 d_c_CS_feed_118 rfl rfl (Nat.le_of_ble_eq_true rfl) ⟨by decide, by decide⟩ ⟨jroom hk_w_9.1 rfl, jroom hk_w_9.2 rfl⟩ (fun v34 w_10 pw_10 => ?_)
                  obtain ⟨rfl, hc_w_10, G_w_10, mx_w_10, mt_w_10⟩ := pw_10
                  have hk_w_10 := jkT hk_w_9 hc_w_10
                  have fr_w_10 := jfrT fr_w_9 G_w_10 (fun b e hb hv => ⟨(fun b e hb _ => Nat.ne_of_gt (Nat.lt_of_lt_of_le xq hb)) b e hb hv, (fun b e hb _ => Nat.ne_of_gt (Nat.lt_of_lt_of_le tq hb)) b e hb hv⟩)
                  show JJ g w_10 121 [(7, .int 1), (0, .ref x), (1, .int 3), (2, .int a), (3, .int b), (4, .int c), (5, .int d), (6, .int e)] []
                  refine j_blk 68 [(7, .int 2), (0, .ref x), (1, .int 3), (2, .int a), (3, .int b), (4, .int c), (5, .int d), (6, .int e)] [] C k_c_CS_feed_121_2 rfl ?_
                  refine j_blk 71 [(7, .int 2), (0, .ref x), (1, .int 3), (2, .int a), (3, .int b), (4, .int c), (5, .int d), (6, .int e)] [.int 3, .int 2] C k_c_CS_feed_68_2 rfl ?_
                  refine j_icmp_ge (tgt := 127) C d_c_CS_feed_71 (by decide) (fun c35 => absurd c35 (by decide)) (fun c35 => ?_)
                  refine j_blk 77 [(7, .int 2), (0, .ref x), (1, .int 3), (2, .int a), (3, .int b), (4, .int c), (5, .int d), (6, .int e)] [.int 2, .ref x] C k_c_CS_feed_74_2 rfl ?_
                  refine j_if_ne (tgt := 84) C d_c_CS_feed_77 (by decide) (fun c36 => ?_) (fun c36 => absurd c36 (by decide))
                  refine j_blk 87 [(7, .int 2), (0, .ref x), (1, .int 3), (2, .int a), (3, .int b), (4, .int c), (5, .int d), (6, .int e)] [.int 1, .int 2, .ref x] C k_c_CS_feed_84_2 rfl ?_
                  refine j_icmp_ne (tgt := 94) C d_c_CS_feed_87 (by decide) (fun c37 => ?_) (fun c37 => absurd c37 (by decide))
                  refine j_blk 97 [(7, .int 2), (0, .ref x), (1, .int 3), (2, .int a), (3, .int b), (4, .int c), (5, .int d), (6, .int e)] [.int 2, .int 2, .ref x] C k_c_CS_feed_94_2 rfl ?_
                  refine j_icmp_ne (tgt := 105) C d_c_CS_feed_97 (by decide) (fun c38 => absurd (by decide) c38) (fun c38 => ?_)
                  refine j_blk 118 [(7, .int 2), (0, .ref x), (1, .int 3), (2, .int a), (3, .int b), (4, .int c), (5, .int d), (6, .int e)] [.int c, .ref x] C k_c_CS_feed_100_2 rfl ?_
                  refine j_callV C Rm Y [.int c] [] (c_CS_append l D B H0 w_10 x tp (updV (updV V 1 (.int 1)) 1 (.int 2)) (upd (upd (fun _ => 0) 0 a) 1 b) 2 c mx_w_10 h0 rfl mt_w_10 (by decide) (by decide)) cl_CS_55 (by rfl) (by rfl) mx_w_10 d_c_CS_feed_118 rfl rfl (Nat.le_of_ble_eq_true rfl) ⟨by decide, by decide⟩ ⟨jroom hk_w_10.1 rfl, jroom hk_w_10.2 rfl⟩ (fun v39 w_11 pw_11 => ?_)
                  obtain ⟨rfl, hc_w_11, G_w_11, mx_w_11, mt_w_11⟩ := pw_11
                  have hk_w_11 := jkT hk_w_10 hc_w_11
                  have fr_w_11 := jfrT fr_w_10 G_w_11 (fun b e hb hv => ⟨(fun b e hb _ => Nat.ne_of_gt (Nat.lt_of_lt_of_le xq hb)) b e hb hv, (fun b e hb _ => Nat.ne_of_gt (Nat.lt_of_lt_of_le tq hb)) b e hb hv⟩)
                  show JJ g w_11 121 [(7, .int 2), (0, .ref x), (1, .int 3), (2, .int a), (3, .int b), (4, .int c), (5, .int d), (6, .int e)] []
                  refine j_blk 68 [(7, .int 3), (0, .ref x), (1, .int 3), (2, .int a), (3, .int b), (4, .int c), (5, .int d), (6, .int e)] [] C k_c_CS_feed_121_2 rfl ?_
                  refine j_blk 71 [(7, .int 3), (0, .ref x), (1, .int 3), (2, .int a), (3, .int b), (4, .int c), (5, .int d), (6, .int e)] [.int 3, .int 3] C k_c_CS_feed_68_2 rfl ?_
                  refine j_icmp_ge (tgt := 127) C d_c_CS_feed_71 (by decide) (fun c40 => ?_) (fun c40 => absurd (by decide) c40)
                  refine j_blk 128 [(7, .int 3), (0, .ref x), (1, .int 3), (2, .int a), (3, .int b), (4, .int c), (5, .int d), (6, .int e)] [.ref x] C k_c_CS_feed_127_1 rfl ?_
                  refine j_get C d_c_CS_feed_128 fg_CS_51 mx_w_11 rfl ?_
                  exact j_iret C Rm E d_c_CS_feed_131 ⟨hres, fr_w_11⟩ (jbnd hk_w_11.1 rfl) (jbnd hk_w_11.2 rfl)
                · show JJ g w 51 [(0, .ref x), (1, .int 4), (2, .int a), (3, .int b), (4, .int c), (5, .int d), (6, .int e)] []
                  refine j_blk 55 [(0, .ref x), (1, .int 4), (2, .int a), (3, .int b), (4, .int c), (5, .int d), (6, .int e)] [.ref x, .int 120, .int 4] C k_c_CS_feed_51_3 rfl ?_
                  refine j_get C d_c_CS_feed_55 fg_CS_51 hx h1 ?_
                  refine j_blk 59 [(0, .ref x), (1, .int 4), (2, .int a), (3, .int b), (4, .int c), (5, .int d), (6, .int e)] [.int 120, .int 4] C k_c_CS_feed_58_1 rfl ?_
                  refine j_icmp_le (tgt := 65) C d_c_CS_feed_59 (by decide) (fun c41 => ?_) (fun c41 => absurd (by decide) c41)
                  refine j_blk 71 [(7, .int 0), (0, .ref x), (1, .int 4), (2, .int a), (3, .int b), (4, .int c), (5, .int d), (6, .int e)] [.int 4, .int 0] C k_c_CS_feed_65_4 rfl ?_
                  refine j_icmp_ge (tgt := 127) C d_c_CS_feed_71 (by decide) (fun c42 => absurd c42 (by decide)) (fun c42 => ?_)
                  refine j_blk 77 [(7, .int 0), (0, .ref x), (1, .int 4), (2, .int a), (3, .int b), (4, .int c), (5, .int d), (6, .int e)] [.int 0, .ref x] C k_c_CS_feed_74_2 rfl ?_
                  refine j_if_ne (tgt := 84) C d_c_CS_feed_77 (by decide) (fun c43 => absurd (by decide) c43) (fun c43 => ?_)
                  refine j_blk 118 [(7, .int 0), (0, .ref x), (1, .int 4), (2, .int a), (3, .int b), (4, .int c), (5, .int d), (6, .int e)] [.int a, .ref x] C k_c_CS_feed_80_2 rfl ?_
                  refine j_callV C Rm Y [.int a] [] (c_CS_append l D B H0 w x tp V (fun _ => 0) 0 a hx h0 h1 ht (by decide) (by decide)) cl_CS_55 (by rfl) (by rfl) hx d_c_CS_feed_118 rfl rfl (Nat.le_of_ble_eq_true rfl) ⟨by decide, by decide⟩ ⟨jroom hk.1 rfl, jroom hk.2 rfl⟩ (fun v44 w_12 pw_12 => ?_)
                  obtain ⟨rfl, hc_w_12, G_w_12, mx_w_12, mt_w_12⟩ := pw_12
                  have hk_w_12 := jkT hk hc_w_12
                  have fr_w_12 := jfrT fr0 G_w_12 (fun b e hb hv => ⟨(fun b e hb _ => Nat.ne_of_gt (Nat.lt_of_lt_of_le xq hb)) b e hb hv, (fun b e hb _ => Nat.ne_of_gt (Nat.lt_of_lt_of_le tq hb)) b e hb hv⟩)
                  show JJ g w_12 121 [(7, .int 0), (0, .ref x), (1, .int 4), (2, .int a), (3, .int b), (4, .int c), (5, .int d), (6, .int e)] []
                  refine j_blk 68 [(7, .int 1), (0, .ref x), (1, .int 4), (2, .int a), (3, .int b), (4, .int c), (5, .int d), (6, .int e)] [] C k_c_CS_feed_121_2 rfl ?_
                  refine j_blk 71 [(7, .int 1), (0, .ref x), (1, .int 4), (2, .int a), (3, .int b), (4, .int c), (5, .int d), (6, .int e)] [.int 4, .int 1] C k_c_CS_feed_68_2 rfl ?_
                  refine j_icmp_ge (tgt := 127) C d_c_CS_feed_71 (by decide) (fun c45 => absurd c45 (by decide)) (fun c45 => ?_)
                  refine j_blk 77 [(7, .int 1), (0, .ref x), (1, .int 4), (2, .int a), (3, .int b), (4, .int c), (5, .int d), (6, .int e)] [.int 1, .ref x] C k_c_CS_feed_74_2 rfl ?_
                  refine j_if_ne (tgt := 84) C d_c_CS_feed_77 (by decide) (fun c46 => ?_) (fun c46 => absurd c46 (by decide))
                  refine j_blk 87 [(7, .int 1), (0, .ref x), (1, .int 4), (2, .int a), (3, .int b), (4, .int c), (5, .int d), (6, .int e)] [.int 1, .int 1, .ref x] C k_c_CS_feed_84_2 rfl ?_
                  refine j_icmp_ne (tgt := 94) C d_c_CS_feed_87 (by decide) (fun c47 => absurd (by decide) c47) (fun c47 => ?_)
                  refine j_blk 118 [(7, .int 1), (0, .ref x), (1, .int 4), (2, .int a), (3, .int b), (4, .int c), (5, .int d), (6, .int e)] [.int b, .ref x] C k_c_CS_feed_90_2 rfl ?_
                  refine j_callV C Rm Y [.int b] [] (c_CS_append l D B H0 w_12 x tp (updV V 1 (.int 1)) (upd (fun _ => 0) 0 a) 1 b mx_w_12 h0 rfl mt_w_12 (by decide) (by decide)) cl_CS_55 (by rfl) (by rfl) mx_w_12 d_c_CS_feed_118 rfl rfl (Nat.le_of_ble_eq_true rfl) ⟨by decide, by decide⟩ ⟨jroom hk_w_12.1 rfl, jroom hk_w_12.2 rfl⟩ (fun v48 w_13 pw_13 => ?_)
                  obtain ⟨rfl, hc_w_13, G_w_13, mx_w_13, mt_w_13⟩ := pw_13
                  have hk_w_13 := jkT hk_w_12 hc_w_13
                  have fr_w_13 := jfrT fr_w_12 G_w_13 (fun b e hb hv => ⟨(fun b e hb _ => Nat.ne_of_gt (Nat.lt_of_lt_of_le xq hb)) b e hb hv, (fun b e hb _ => Nat.ne_of_gt (Nat.lt_of_lt_of_le tq hb)) b e hb hv⟩)
                  show JJ g w_13 121 [(7, .int 1), (0, .ref x), (1, .int 4), (2, .int a), (3, .int b), (4, .int c), (5, .int d), (6, .int e)] []
                  refine j_blk 68 [(7, .int 2), (0, .ref x), (1, .int 4), (2, .int a), (3, .int b), (4, .int c), (5, .int d), (6, .int e)] [] C k_c_CS_feed_121_2 rfl ?_
                  refine j_blk 71 [(7, .int 2), (0, .ref x), (1, .int 4), (2, .int a), (3, .int b), (4, .int c), (5, .int d), (6, .int e)] [.int 4, .int 2] C k_c_CS_feed_68_2 rfl ?_
                  refine j_icmp_ge (tgt := 127) C d_c_CS_feed_71 (by decide) (fun c49 => absurd c49 (by decide)) (fun c49 => ?_)
                  refine j_blk 77 [(7, .int 2), (0, .ref x), (1, .int 4), (2, .int a), (3, .int b), (4, .int c), (5, .int d), (6, .int e)] [.int 2, .ref x] C k_c_CS_feed_74_2 rfl ?_
                  refine j_if_ne (tgt := 84) C d_c_CS_feed_77 (by decide) (fun c50 => ?_) (fun c50 => absurd c50 (by decide))
                  refine j_blk 87 [(7, .int 2), (0, .ref x), (1, .int 4), (2, .int a), (3, .int b), (4, .int c), (5, .int d), (6, .int e)] [.int 1, .int 2, .ref x] C k_c_CS_feed_84_2 rfl ?_
                  refine j_icmp_ne (tgt := 94) C d_c_CS_feed_87 (by decide) (fun c51 => ?_) (fun c51 => absurd c51 (by decide))
                  refine j_blk 97 [(7, .int 2), (0, .ref x), (1, .int 4), (2, .int a), (3, .int b), (4, .int c), (5, .int d), (6, .int e)] [.int 2, .int 2, .ref x] C k_c_CS_feed_94_2 rfl ?_
                  refine j_icmp_ne (tgt := 105) C d_c_CS_feed_97 (by decide) (fun c52 => absurd (by decide) c52) (fun c52 => ?_)
                  refine j_blk 118 [(7, .int 2), (0, .ref x), (1, .int 4), (2, .int a), (3, .int b), (4, .int c), (5, .int d), (6, .int e)] [.int c, .ref x] C k_c_CS_feed_100_2 rfl ?_
                  refine j_callV C Rm Y [.int c] [] (c_CS_append l D B H0 w_13 x tp (updV (updV V 1 (.int 1)) 1 (.int 2)) (upd (upd (fun _ => 0) 0 a) 1 b) 2 c mx_w_13 h0 rfl mt_w_13 (by decide) (by decide)) cl_CS_55 (by rfl) (by rfl) mx_w_13 d_c_CS_feed_118 rfl rfl (Nat.le_of_ble_eq_true rfl) ⟨by decide, by decide⟩ ⟨jroom hk_w_13.1 rfl, jroom hk_w_13.2 rfl⟩ (fun v53 w_14 pw_14 => ?_)
                  obtain ⟨rfl, hc_w_14, G_w_14, mx_w_14, mt_w_14⟩ := pw_14
                  have hk_w_14 := jkT hk_w_13 hc_w_14
                  have fr_w_14 := jfrT fr_w_13 G_w_14 (fun b e hb hv => ⟨(fun b e hb _ => Nat.ne_of_gt (Nat.lt_of_lt_of_le xq hb)) b e hb hv, (fun b e hb _ => Nat.ne_of_gt (Nat.lt_of_lt_of_le tq hb)) b e hb hv⟩)
                  show JJ g w_14 121 [(7, .int 2), (0, .ref x), (1, .int 4), (2, .int a), (3, .int b), (4, .int c), (5, .int d), (6, .int e)] []
                  refine j_blk 68 [(7, .int 3), (0, .ref x), (1, .int 4), (2, .int a), (3, .int b), (4, .int c), (5, .int d), (6, .int e)] [] C k_c_CS_feed_121_2 rfl ?_
                  refine j_blk 71 [(7, .int 3), (0, .ref x), (1, .int 4), (2, .int a), (3, .int b), (4, .int c), (5, .int d), (6, .int e)] [.int 4, .int 3] C k_c_CS_feed_68_2 rfl ?_
                  refine j_icmp_ge (tgt := 127) C d_c_CS_feed_71 (by decide) (fun c54 => absurd c54 (by decide)) (fun c54 => ?_)
                  refine j_blk 77 [(7, .int 3), (0, .ref x), (1, .int 4), (2, .int a), (3, .int b), (4, .int c), (5, .int d), (6, .int e)] [.int 3, .ref x] C k_c_CS_feed_74_2 rfl ?_
                  refine j_if_ne (tgt := 84) C d_c_CS_feed_77 (by decide) (fun c55 => ?_) (fun c55 => absurd c55 (by decide))
                  refine j_blk 87 [(7, .int 3), (0, .ref x), (1, .int 4), (2, .int a), (3, .int b), (4, .int c), (5, .int d), (6, .int e)] [.int 1, .int 3, .ref x] C k_c_CS_feed_84_2 rfl ?_
                  refine j_icmp_ne (tgt := 94) C d_c_CS_feed_87 (by decide) (fun c56 => ?_) (fun c56 => absurd c56 (by decide))
                  refine j_blk 97 [(7, .int 3), (0, .ref x), (1, .int 4), (2, .int a), (3, .int b), (4, .int c), (5, .int d), (6, .int e)] [.int 2, .int 3, .ref x] C k_c_CS_feed_94_2 rfl ?_
                  refine j_icmp_ne (tgt := 105) C d_c_CS_feed_97 (by decide) (fun c57 => ?_) (fun c57 => absurd c57 (by decide))
                  refine j_blk 108 [(7, .int 3), (0, .ref x), (1, .int 4), (2, .int a), (3, .int b), (4, .int c), (5, .int d), (6, .int e)] [.int 3, .int 3, .ref x] C k_c_CS_feed_105_2 rfl ?_
                  refine j_icmp_ne (tgt := 116) C d_c_CS_feed_108 (by decide) (fun c58 => absurd (by decide) c58) (fun c58 => ?_)
                  refine j_blk 118 [(7, .int 3), (0, .ref x), (1, .int 4), (2, .int a), (3, .int b), (4, .int c), (5, .int d), (6, .int e)] [.int d, .ref x] C k_c_CS_feed_111_2 rfl ?_
                  refine j_callV C Rm Y [.int d] [] (c_CS_append l D B H0 w_14 x tp (updV (updV (updV V 1 (.int 1)) 1 (.int 2)) 1 (.int 3)) (upd (upd (upd (fun _ => 0) 0 a) 1 b) 2 c) 3 d mx_w_14 h0 rfl mt_w_14 (by decide) (by decide)) cl_CS_55 (by rfl) (by rfl) mx_w_14 d_c_CS_feed_118 rfl rfl (Nat.le_of_ble_eq_true rfl) ⟨by decide, by decide⟩ ⟨jroom hk_w_14.1 rfl, jroom hk_w_14.2 rfl⟩ (fun v59 w_15 pw_15 => ?_)
                  obtain ⟨rfl, hc_w_15, G_w_15, mx_w_15, mt_w_15⟩ := pw_15
                  have hk_w_15 := jkT hk_w_14 hc_w_15
                  have fr_w_15 := jfrT fr_w_14 G_w_15 (fun b e hb hv => ⟨(fun b e hb _ => Nat.ne_of_gt (Nat.lt_of_lt_of_le xq hb)) b e hb hv, (fun b e hb _ => Nat.ne_of_gt (Nat.lt_of_lt_of_le tq hb)) b e hb hv⟩)
                  show JJ g w_15 121 [(7, .int 3), (0, .ref x), (1, .int 4), (2, .int a), (3, .int b), (4, .int c), (5, .int d), (6, .int e)] []
                  refine j_blk 68 [(7, .int 4), (0, .ref x), (1, .int 4), (2, .int a), (3, .int b), (4, .int c), (5, .int d), (6, .int e)] [] C k_c_CS_feed_121_2 rfl ?_
                  refine j_blk 71 [(7, .int 4), (0, .ref x), (1, .int 4), (2, .int a), (3, .int b), (4, .int c), (5, .int d), (6, .int e)] [.int 4, .int 4] C k_c_CS_feed_68_2 rfl ?_
                  refine j_icmp_ge (tgt := 127) C d_c_CS_feed_71 (by decide) (fun c60 => ?_) (fun c60 => absurd (by decide) c60)
                  refine j_blk 128 [(7, .int 4), (0, .ref x), (1, .int 4), (2, .int a), (3, .int b), (4, .int c), (5, .int d), (6, .int e)] [.ref x] C k_c_CS_feed_127_1 rfl ?_
                  refine j_get C d_c_CS_feed_128 fg_CS_51 mx_w_15 rfl ?_
                  exact j_iret C Rm E d_c_CS_feed_131 ⟨hres, fr_w_15⟩ (jbnd hk_w_15.1 rfl) (jbnd hk_w_15.2 rfl)
                · show JJ g w 51 [(0, .ref x), (1, .int 5), (2, .int a), (3, .int b), (4, .int c), (5, .int d), (6, .int e)] []
                  refine j_blk 55 [(0, .ref x), (1, .int 5), (2, .int a), (3, .int b), (4, .int c), (5, .int d), (6, .int e)] [.ref x, .int 120, .int 5] C k_c_CS_feed_51_3 rfl ?_
                  refine j_get C d_c_CS_feed_55 fg_CS_51 hx h1 ?_
                  refine j_blk 59 [(0, .ref x), (1, .int 5), (2, .int a), (3, .int b), (4, .int c), (5, .int d), (6, .int e)] [.int 120, .int 5] C k_c_CS_feed_58_1 rfl ?_
                  refine j_icmp_le (tgt := 65) C d_c_CS_feed_59 (by decide) (fun c61 => ?_) (fun c61 => absurd (by decide) c61)
                  refine j_blk 71 [(7, .int 0), (0, .ref x), (1, .int 5), (2, .int a), (3, .int b), (4, .int c), (5, .int d), (6, .int e)] [.int 5, .int 0] C k_c_CS_feed_65_4 rfl ?_
                  refine j_icmp_ge (tgt := 127) C d_c_CS_feed_71 (by decide) (fun c62 => absurd c62 (by decide)) (fun c62 => ?_)
                  refine j_blk 77 [(7, .int 0), (0, .ref x), (1, .int 5), (2, .int a), (3, .int b), (4, .int c), (5, .int d), (6, .int e)] [.int 0, .ref x] C k_c_CS_feed_74_2 rfl ?_
                  refine j_if_ne (tgt := 84) C d_c_CS_feed_77 (by decide) (fun c63 => absurd (by decide) c63) (fun c63 => ?_)
                  refine j_blk 118 [(7, .int 0), (0, .ref x), (1, .int 5), (2, .int a), (3, .int b), (4, .int c), (5, .int d), (6, .int e)] [.int a, .ref x] C k_c_CS_feed_80_2 rfl ?_
                  refine j_callV C Rm Y [.int a] [] (c_CS_append l D B H0 w x tp V (fun _ => 0) 0 a hx h0 h1 ht (by decide) (by decide)) cl_CS_55 (by rfl) (by rfl) hx d_c_CS_feed_118 rfl rfl (Nat.le_of_ble_eq_true rfl) ⟨by decide, by decide⟩ ⟨jroom hk.1 rfl, jroom hk.2 rfl⟩ (fun v64 w_16 pw_16 => ?_)
                  obtain ⟨rfl, hc_w_16, G_w_16, mx_w_16, mt_w_16⟩ := pw_16
                  have hk_w_16 := jkT hk hc_w_16
                  have fr_w_16 := jfrT fr0 G_w_16 (fun b e hb hv => ⟨(fun b e hb _ => Nat.ne_of_gt (Nat.lt_of_lt_of_le xq hb)) b e hb hv, (fun b e hb _ => Nat.ne_of_gt (Nat.lt_of_lt_of_le tq hb)) b e hb hv⟩)
                  show JJ g w_16 121 [(7, .int 0), (0, .ref x), (1, .int 5), (2, .int a), (3, .int b), (4, .int c), (5, .int d), (6, .int e)] []
                  refine j_blk 68 [(7, .int 1), (0, .ref x), (1, .int 5), (2, .int a), (3, .int b), (4, .int c), (5, .int d), (6, .int e)] [] C k_c_CS_feed_121_2 rfl ?_
                  refine j_blk 71 [(7, .int 1), (0, .ref x), (1, .int 5), (2, .int a), (3, .int b), (4, .int c), (5, .int d), (6, .int e)] [.int 5, .int 1] C k_c_CS_feed_68_2 rfl ?_
                  refine j_icmp_ge (tgt := 127) C d_c_CS_feed_71 (by decide) (fun c65 => absurd c65 (by decide)) (fun c65 => ?_)
                  refine j_blk 77 [(7, .int 1), (0, .ref x), (1, .int 5), (2, .int a), (3, .int b), (4, .int c), (5, .int d), (6, .int e)] [.int 1, .ref x] C k_c_CS_feed_74_2 rfl ?_
                  refine j_if_ne (tgt := 84) C d_c_CS_feed_77 (by decide) (fun c66 => ?_) (fun c66 => absurd c66 (by decide))
                  refine j_blk 87 [(7, .int 1), (0, .ref x), (1, .int 5), (2, .int a), (3, .int b), (4, .int c), (5, .int d), (6, .int e)] [.int 1, .int 1, .ref x] C k_c_CS_feed_84_2 rfl ?_
                  refine j_icmp_ne (tgt := 94) C d_c_CS_feed_87 (by decide) (fun c67 => absurd (by decide) c67) (fun c67 => ?_)
                  refine j_blk 118 [(7, .int 1), (0, .ref x), (1, .int 5), (2, .int a), (3, .int b), (4, .int c), (5, .int d), (6, .int e)] [.int b, .ref x] C k_c_CS_feed_90_2 rfl ?_
                  refine j_callV C Rm Y [.int b] [] (c_CS_append l D B H0 w_16 x tp (updV V 1 (.int 1)) (upd (fun _ => 0) 0 a) 1 b mx_w_16 h0 rfl mt_w_16 (by decide) (by decide)) cl_CS_55 (by rfl) (by rfl) mx_w_16 d_c_CS_feed_118 rfl rfl (Nat.le_of_ble_eq_true rfl) ⟨by decide, by decide⟩ ⟨jroom hk_w_16.1 rfl, jroom hk_w_16.2 rfl⟩ (fun v68 w_17 pw_17 => ?_)
                  obtain ⟨rfl, hc_w_17, G_w_17, mx_w_17, mt_w_17⟩ := pw_17
                  have hk_w_17 := jkT hk_w_16 hc_w_17
                  have fr_w_17 := jfrT fr_w_16 G_w_17 (fun b e hb hv => ⟨(fun b e hb _ => Nat.ne_of_gt (Nat.lt_of_lt_of_le xq hb)) b e hb hv, (fun b e hb _ => Nat.ne_of_gt (Nat.lt_of_lt_of_le tq hb)) b e hb hv⟩)
                  show JJ g w_17 121 [(7, .int 1), (0, .ref x), (1, .int 5), (2, .int a), (3, .int b), (4, .int c), (5, .int d), (6, .int e)] []
                  refine j_blk 68 [(7, .int 2), (0, .ref x), (1, .int 5), (2, .int a), (3, .int b), (4, .int c), (5, .int d), (6, .int e)] [] C k_c_CS_feed_121_2 rfl ?_
                  refine j_blk 71 [(7, .int 2), (0, .ref x), (1, .int 5), (2, .int a), (3, .int b), (4, .int c), (5, .int d), (6, .int e)] [.int 5, .int 2] C k_c_CS_feed_68_2 rfl ?_
                  refine j_icmp_ge (tgt := 127) C d_c_CS_feed_71 (by decide) (fun c69 => absurd c69 (by decide)) (fun c69 => ?_)
                  refine j_blk 77 [(7, .int 2), (0, .ref x), (1, .int 5), (2, .int a), (3, .int b), (4, .int c), (5, .int d), (6, .int e)] [.int 2, .ref x] C k_c_CS_feed_74_2 rfl ?_
                  refine j_if_ne (tgt := 84) C d_c_CS_feed_77 (by decide) (fun c70 => ?_) (fun c70 => absurd c70 (by decide))
                  refine j_blk 87 [(7, .int 2), (0, .ref x), (1, .int 5), (2, .int a), (3, .int b), (4, .int c), (5, .int d), (6, .int e)] [.int 1, .int 2, .ref x] C k_c_CS_feed_84_2 rfl ?_
                  refine j_icmp_ne (tgt := 94) C d_c_CS_feed_87 (by decide) (fun c71 => ?_) (fun c71 => absurd c71 (by decide))
                  refine j_blk 97 [(7, .int 2), (0, .ref x), (1, .int 5), (2, .int a), (3, .int b), (4, .int c), (5, .int d), (6, .int e)] [.int 2, .int 2, .ref x] C k_c_CS_feed_94_2 rfl ?_
                  refine j_icmp_ne (tgt := 105) C d_c_CS_feed_97 (by decide) (fun c72 => absurd (by decide) c72) (fun c72 => ?_)
                  refine j_blk 118 [(7, .int 2), (0, .ref x), (1, .int 5), (2, .int a), (3, .int b), (4, .int c), (5, .int d), (6, .int e)] [.int c, .ref x] C k_c_CS_feed_100_2 rfl ?_
                  refine j_callV C Rm Y [.int c] [] (c_CS_append l D B H0 w_17 x tp (updV (updV V 1 (.int 1)) 1 (.int 2)) (upd (upd (fun _ => 0) 0 a) 1 b) 2 c mx_w_17 h0 rfl mt_w_17 (by decide) (by decide)) cl_CS_55 (by rfl) (by rfl) mx_w_17 d_c_CS_feed_118 rfl rfl (Nat.le_of_ble_eq_true rfl) ⟨by decide, by decide⟩ ⟨jroom hk_w_17.1 rfl, jroom hk_w_17.2 rfl⟩ (fun v73 w_18 pw_18 => ?_)
                  obtain ⟨rfl, hc_w_18, G_w_18, mx_w_18, mt_w_18⟩ := pw_18
                  have hk_w_18 := jkT hk_w_17 hc_w_18
                  have fr_w_18 := jfrT fr_w_17 G_w_18 (fun b e hb hv => ⟨(fun b e hb _ => Nat.ne_of_gt (Nat.lt_of_lt_of_le xq hb)) b e hb hv, (fun b e hb _ => Nat.ne_of_gt (Nat.lt_of_lt_of_le tq hb)) b e hb hv⟩)
                  show JJ g w_18 121 [(7, .int 2), (0, .ref x), (1, .int 5), (2, .int a), (3, .int b), (4, .int c), (5, .int d), (6, .int e)] []
                  refine j_blk 68 [(7, .int 3), (0, .ref x), (1, .int 5), (2, .int a), (3, .int b), (4, .int c), (5, .int d), (6, .int e)] [] C k_c_CS_feed_121_2 rfl ?_
                  refine j_blk 71 [(7, .int 3), (0, .ref x), (1, .int 5), (2, .int a), (3, .int b), (4, .int c), (5, .int d), (6, .int e)] [.int 5, .int 3] C k_c_CS_feed_68_2 rfl ?_
                  refine j_icmp_ge (tgt := 127) C d_c_CS_feed_71 (by decide) (fun c74 => absurd c74 (by decide)) (fun c74 => ?_)
                  refine j_blk 77 [(7, .int 3), (0, .ref x), (1, .int 5), (2, .int a), (3, .int b), (4, .int c), (5, .int d), (6, .int e)] [.int 3, .ref x] C k_c_CS_feed_74_2 rfl ?_
                  refine j_if_ne (tgt := 84) C d_c_CS_feed_77 (by decide) (fun c75 => ?_) (fun c75 => absurd c75 (by decide))
                  refine j_blk 87 [(7, .int 3), (0, .ref x), (1, .int 5), (2, .int a), (3, .int b), (4, .int c), (5, .int d), (6, .int e)] [.int 1, .int 3, .ref x] C k_c_CS_feed_84_2 rfl ?_
                  refine j_icmp_ne (tgt := 94) C d_c_CS_feed_87 (by decide) (fun c76 => ?_) (fun c76 => absurd c76 (by decide))
                  refine j_blk 97 [(7, .int 3), (0, .ref x), (1, .int 5), (2, .int a), (3, .int b), (4, .int c), (5, .int d), (6, .int e)] [.int 2, .int 3, .ref x] C k_c_CS_feed_94_2 rfl ?_
                  refine j_icmp_ne (tgt := 105) C d_c_CS_feed_97 (by decide) (fun c77 => ?_) (fun c77 => absurd c77 (by decide))
                  refine j_blk 108 [(7, .int 3), (0, .ref x), (1, .int 5), (2, .int a), (3, .int b), (4, .int c), (5, .int d), (6, .int e)] [.int 3, .int 3, .ref x] C k_c_CS_feed_105_2 rfl ?_
                  refine j_icmp_ne (tgt := 116) C d_c_CS_feed_108 (by decide) (fun c78 => absurd (by decide) c78) (fun c78 => ?_)
                  refine j_blk 118 [(7, .int 3), (0, .ref x), (1, .int 5), (2, .int a), (3, .int b), (4, .int c), (5, .int d), (6, .int e)] [.int d, .ref x] C k_c_CS_feed_111_2 rfl ?_
                  refine j_callV C Rm Y [.int d] [] (c_CS_append l D B H0 w_18 x tp (updV (updV (updV V 1 (.int 1)) 1 (.int 2)) 1 (.int 3)) (upd (upd (upd (fun _ => 0) 0 a) 1 b) 2 c) 3 d mx_w_18 h0 rfl mt_w_18 (by decide) (by decide)) cl_CS_55 (by rfl) (by rfl) mx_w_18 d_c_CS_feed_118 rfl rfl (Nat.le_of_ble_eq_true rfl) ⟨by decide, by decide⟩ ⟨jroom hk_w_18.1 rfl, jroom hk_w_18.2 rfl⟩ (fun v79 w_19 pw_19 => ?_)
                  obtain ⟨rfl, hc_w_19, G_w_19, mx_w_19, mt_w_19⟩ := pw_19
                  have hk_w_19 := jkT hk_w_18 hc_w_19
                  have fr_w_19 := jfrT fr_w_18 G_w_19 (fun b e hb hv => ⟨(fun b e hb _ => Nat.ne_of_gt (Nat.lt_of_lt_of_le xq hb)) b e hb hv, (fun b e hb _ => Nat.ne_of_gt (Nat.lt_of_lt_of_le tq hb)) b e hb hv⟩)
                  show JJ g w_19 121 [(7, .int 3), (0, .ref x), (1, .int 5), (2, .int a), (3, .int b), (4, .int c), (5, .int d), (6, .int e)] []
                  refine j_blk 68 [(7, .int 4), (0, .ref x), (1, .int 5), (2, .int a), (3, .int b), (4, .int c), (5, .int d), (6, .int e)] [] C k_c_CS_feed_121_2 rfl ?_
                  refine j_blk 71 [(7, .int 4), (0, .ref x), (1, .int 5), (2, .int a), (3, .int b), (4, .int c), (5, .int d), (6, .int e)] [.int 5, .int 4] C k_c_CS_feed_68_2 rfl ?_
                  refine j_icmp_ge (tgt := 127) C d_c_CS_feed_71 (by decide) (fun c80 => absurd c80 (by decide)) (fun c80 => ?_)
                  refine j_blk 77 [(7, .int 4), (0, .ref x), (1, .int 5), (2, .int a), (3, .int b), (4, .int c), (5, .int d), (6, .int e)] [.int 4, .ref x] C k_c_CS_feed_74_2 rfl ?_
                  refine j_if_ne (tgt := 84) C d_c_CS_feed_77 (by decide) (fun c81 => ?_) (fun c81 => absurd c81 (by decide))
                  refine j_blk 87 [(7, .int 4), (0, .ref x), (1, .int 5), (2, .int a), (3, .int b), (4, .int c), (5, .int d), (6, .int e)] [.int 1, .int 4, .ref x] C k_c_CS_feed_84_2 rfl ?_
                  refine j_icmp_ne (tgt := 94) C d_c_CS_feed_87 (by decide) (fun c82 => ?_) (fun c82 => absurd c82 (by decide))
                  refine j_blk 97 [(7, .int 4), (0, .ref x), (1, .int 5), (2, .int a), (3, .int b), (4, .int c), (5, .int d), (6, .int e)] [.int 2, .int 4, .ref x] C k_c_CS_feed_94_2 rfl ?_
                  refine j_icmp_ne (tgt := 105) C d_c_CS_feed_97 (by decide) (fun c83 => ?_) (fun c83 => absurd c83 (by decide))
                  refine j_blk 108 [(7, .int 4), (0, .ref x), (1, .int 5), (2, .int a), (3, .int b), (4, .int c), (5, .int d), (6, .int e)] [.int 3, .int 4, .ref x] C k_c_CS_feed_105_2 rfl ?_
                  refine j_icmp_ne (tgt := 116) C d_c_CS_feed_108 (by decide) (fun c84 => ?_) (fun c84 => absurd c84 (by decide))
                  refine j_blk 118 [(7, .int 4), (0, .ref x), (1, .int 5), (2, .int a), (3, .int b), (4, .int c), (5, .int d), (6, .int e)] [.int e, .ref x] C k_c_CS_feed_116_1 rfl ?_
                  refine j_callV C Rm Y [.int e] [] (c_CS_append l D B H0 w_19 x tp (updV (updV (updV (updV V 1 (.int 1)) 1 (.int 2)) 1 (.int 3)) 1 (.int 4)) (upd (upd (upd (upd (fun _ => 0) 0 a) 1 b) 2 c) 3 d) 4 e mx_w_19 h0 rfl mt_w_19 (by decide) (by decide)) cl_CS_55 (by rfl) (by rfl) mx_w_19 d_c_CS_feed_118 rfl rfl (Nat.le_of_ble_eq_true rfl) ⟨by decide, by decide⟩ ⟨jroom hk_w_19.1 rfl, jroom hk_w_19.2 rfl⟩ (fun v85 w_20 pw_20 => ?_)
                  obtain ⟨rfl, hc_w_20, G_w_20, mx_w_20, mt_w_20⟩ := pw_20
                  have hk_w_20 := jkT hk_w_19 hc_w_20
                  have fr_w_20 := jfrT fr_w_19 G_w_20 (fun b e hb hv => ⟨(fun b e hb _ => Nat.ne_of_gt (Nat.lt_of_lt_of_le xq hb)) b e hb hv, (fun b e hb _ => Nat.ne_of_gt (Nat.lt_of_lt_of_le tq hb)) b e hb hv⟩)
                  show JJ g w_20 121 [(7, .int 4), (0, .ref x), (1, .int 5), (2, .int a), (3, .int b), (4, .int c), (5, .int d), (6, .int e)] []
                  refine j_blk 68 [(7, .int 5), (0, .ref x), (1, .int 5), (2, .int a), (3, .int b), (4, .int c), (5, .int d), (6, .int e)] [] C k_c_CS_feed_121_2 rfl ?_
                  refine j_blk 71 [(7, .int 5), (0, .ref x), (1, .int 5), (2, .int a), (3, .int b), (4, .int c), (5, .int d), (6, .int e)] [.int 5, .int 5] C k_c_CS_feed_68_2 rfl ?_
                  refine j_icmp_ge (tgt := 127) C d_c_CS_feed_71 (by decide) (fun c86 => ?_) (fun c86 => absurd (by decide) c86)
                  refine j_blk 128 [(7, .int 5), (0, .ref x), (1, .int 5), (2, .int a), (3, .int b), (4, .int c), (5, .int d), (6, .int e)] [.ref x] C k_c_CS_feed_127_1 rfl ?_
                  refine j_get C d_c_CS_feed_128 fg_CS_51 mx_w_20 rfl ?_
                  exact j_iret C Rm E d_c_CS_feed_131 ⟨hres, fr_w_20⟩ (jbnd hk_w_20.1 rfl) (jbnd hk_w_20.2 rfl)
              · have c12 := jbz.mp c12
                refine j_blk 50 [(0, .ref x), (1, .int n), (2, .int a), (3, .int b), (4, .int c), (5, .int d), (6, .int e)] [.int (-2)] C k_c_CS_feed_48_1 rfl ?_
                exact j_iret C Rm E d_c_CS_feed_50 ⟨jin_ (fun hq => absurd hq (by (try simp only [jlt, jle, jeq, kt_0, kt_1, kt_2, kt_3, kt_4, kt_5, kt_6, kt_7, kt_8, kt_9, kt_10, kt_11, kt_12, kt_13, kt_15, kt_16, kt_19, kt_20, kt_24, kt_25, kt_31, kt_32, kt_40, kt_50, kt_60, kt_63, kt_100, kt_120, kt_255, kt_300, kt_999999, kt_1000000, kt_m1, kt_m2, kt_m3, kt_m4, kt_m6, kt_m7, kt_m11, kt_m12, kt_m13, kt_m14, kt_m100] at c1); (try simp only [jlt, jle, jeq, kt_0, kt_1, kt_2, kt_3, kt_4, kt_5, kt_6, kt_7, kt_8, kt_9, kt_10, kt_11, kt_12, kt_13, kt_15, kt_16, kt_19, kt_20, kt_24, kt_25, kt_31, kt_32, kt_40, kt_50, kt_60, kt_63, kt_100, kt_120, kt_255, kt_300, kt_999999, kt_1000000, kt_m1, kt_m2, kt_m3, kt_m4, kt_m6, kt_m7, kt_m11, kt_m12, kt_m13, kt_m14, kt_m100] at c2); (try simp only [jlt, jle, jeq, kt_0, kt_1, kt_2, kt_3, kt_4, kt_5, kt_6, kt_7, kt_8, kt_9, kt_10, kt_11, kt_12, kt_13, kt_15, kt_16, kt_19, kt_20, kt_24, kt_25, kt_31, kt_32, kt_40, kt_50, kt_60, kt_63, kt_100, kt_120, kt_255, kt_300, kt_999999, kt_1000000, kt_m1, kt_m2, kt_m3, kt_m4, kt_m6, kt_m7, kt_m11, kt_m12, kt_m13, kt_m14, kt_m100] at c4); (try simp only [jlt, jle, jeq, kt_0, kt_1, kt_2, kt_3, kt_4, kt_5, kt_6, kt_7, kt_8, kt_9, kt_10, kt_11, kt_12, kt_13, kt_15, kt_16, kt_19, kt_20, kt_24, kt_25, kt_31, kt_32, kt_40, kt_50, kt_60, kt_63, kt_100, kt_120, kt_255, kt_300, kt_999999, kt_1000000, kt_m1, kt_m2, kt_m3, kt_m4, kt_m6, kt_m7, kt_m11, kt_m12, kt_m13, kt_m14, kt_m100] at c6); (try simp only [jlt, jle, jeq, kt_0, kt_1, kt_2, kt_3, kt_4, kt_5, kt_6, kt_7, kt_8, kt_9, kt_10, kt_11, kt_12, kt_13, kt_15, kt_16, kt_19, kt_20, kt_24, kt_25, kt_31, kt_32, kt_40, kt_50, kt_60, kt_63, kt_100, kt_120, kt_255, kt_300, kt_999999, kt_1000000, kt_m1, kt_m2, kt_m3, kt_m4, kt_m6, kt_m7, kt_m11, kt_m12, kt_m13, kt_m14, kt_m100] at c8); (try simp only [jlt, jle, jeq, kt_0, kt_1, kt_2, kt_3, kt_4, kt_5, kt_6, kt_7, kt_8, kt_9, kt_10, kt_11, kt_12, kt_13, kt_15, kt_16, kt_19, kt_20, kt_24, kt_25, kt_31, kt_32, kt_40, kt_50, kt_60, kt_63, kt_100, kt_120, kt_255, kt_300, kt_999999, kt_1000000, kt_m1, kt_m2, kt_m3, kt_m4, kt_m6, kt_m7, kt_m11, kt_m12, kt_m13, kt_m14, kt_m100] at c10); (try simp only [jlt, jle, jeq, kt_0, kt_1, kt_2, kt_3, kt_4, kt_5, kt_6, kt_7, kt_8, kt_9, kt_10, kt_11, kt_12, kt_13, kt_15, kt_16, kt_19, kt_20, kt_24, kt_25, kt_31, kt_32, kt_40, kt_50, kt_60, kt_63, kt_100, kt_120, kt_255, kt_300, kt_999999, kt_1000000, kt_m1, kt_m2, kt_m3, kt_m4, kt_m6, kt_m7, kt_m11, kt_m12, kt_m13, kt_m14, kt_m100] at c12); (try simp only [kt_0, kt_1, kt_2, kt_3, kt_4, kt_5, kt_6, kt_7, kt_8, kt_9, kt_10, kt_11, kt_12, kt_13, kt_15, kt_16, kt_19, kt_20, kt_24, kt_25, kt_31, kt_32, kt_40, kt_50, kt_60, kt_63, kt_100, kt_120, kt_255, kt_300, kt_999999, kt_1000000, kt_m1, kt_m2, kt_m3, kt_m4, kt_m6, kt_m7, kt_m11, kt_m12, kt_m13, kt_m14, kt_m100]); omega)), fr0⟩ (jbnd hk.1 rfl) (jbnd hk.2 rfl)

theorem k_c_Mo_feed_0_3 : sblk b_Mo_feed [(0, .iload_n 1, .null), (1, .iconst 1, .int 1), (2, .iconst 5, .int 5)] := sblk_of (by decide +kernel)
theorem d_c_Mo_feed_3 : decode b_Mo_feed 3 = .ok (.invokestatic 108, 3) := by decide +kernel
theorem d_c_Mo_feed_6 : decode b_Mo_feed 6 = .ok (.ifCond .eq 41, 3) := by decide +kernel
theorem k_c_Mo_feed_47_1 : sblk b_Mo_feed [(47, .bipush (-2), .int (-2))] := sblk_of (by decide +kernel)
theorem d_c_Mo_feed_49 : decode b_Mo_feed 49 = .ok (.ireturn, 1) := by decide +kernel
theorem k_c_Mo_feed_9_1 : sblk b_Mo_feed [(9, .iload_n 2, .null)] := sblk_of (by decide +kernel)
theorem d_c_Mo_feed_10 : decode b_Mo_feed 10 = .ok (.invokestatic 112, 3) := by decide +kernel
theorem d_c_Mo_feed_13 : decode b_Mo_feed 13 = .ok (.ifCond .eq 34, 3) := by decide +kernel
theorem k_c_Mo_feed_16_1 : sblk b_Mo_feed [(16, .iload_n 3, .null)] := sblk_of (by decide +kernel)
theorem d_c_Mo_feed_17 : decode b_Mo_feed 17 = .ok (.invokestatic 112, 3) := by decide +kernel
theorem d_c_Mo_feed_20 : decode b_Mo_feed 20 = .ok (.ifCond .eq 27, 3) := by decide +kernel
theorem k_c_Mo_feed_23_1 : sblk b_Mo_feed [(23, .iload 4, .null)] := sblk_of (by decide +kernel)
theorem d_c_Mo_feed_25 : decode b_Mo_feed 25 = .ok (.invokestatic 112, 3) := by decide +kernel
theorem d_c_Mo_feed_28 : decode b_Mo_feed 28 = .ok (.ifCond .eq 19, 3) := by decide +kernel
theorem k_c_Mo_feed_31_1 : sblk b_Mo_feed [(31, .iload 5, .null)] := sblk_of (by decide +kernel)
theorem d_c_Mo_feed_33 : decode b_Mo_feed 33 = .ok (.invokestatic 112, 3) := by decide +kernel
theorem d_c_Mo_feed_36 : decode b_Mo_feed 36 = .ok (.ifCond .eq 11, 3) := by decide +kernel
theorem k_c_Mo_feed_39_1 : sblk b_Mo_feed [(39, .iload 6, .null)] := sblk_of (by decide +kernel)
theorem d_c_Mo_feed_41 : decode b_Mo_feed 41 = .ok (.invokestatic 112, 3) := by decide +kernel
theorem d_c_Mo_feed_44 : decode b_Mo_feed 44 = .ok (.ifCond .ne 6, 3) := by decide +kernel
theorem k_c_Mo_feed_50_1 : sblk b_Mo_feed [(50, .aload_n 0, .null)] := sblk_of (by decide +kernel)
theorem d_c_Mo_feed_51 : decode b_Mo_feed 51 = .ok (.getfield 116, 3) := by decide +kernel
theorem k_c_Mo_feed_54_3 : sblk b_Mo_feed [(54, .iload_n 1, .null), (55, .iadd, .null), (56, .bipush 120, .int 120)] := sblk_of (by decide +kernel)
theorem d_c_Mo_feed_58 : decode b_Mo_feed 58 = .ok (.if_icmp .le 6, 3) := by decide +kernel
theorem k_c_Mo_feed_64_4 : sblk b_Mo_feed [(64, .iconst 0, .int 0), (65, .istore 7, .null), (67, .iload 7, .null), (69, .iload_n 1, .null)] := sblk_of (by decide +kernel)
theorem d_c_Mo_feed_70 : decode b_Mo_feed 70 = .ok (.if_icmp .ge 64, 3) := by decide +kernel
theorem k_c_Mo_feed_73_1 : sblk b_Mo_feed [(73, .aload_n 0, .null)] := sblk_of (by decide +kernel)
theorem d_c_Mo_feed_74 : decode b_Mo_feed 74 = .ok (.getfield 76, 3) := by decide +kernel
theorem k_c_Mo_feed_77_1 : sblk b_Mo_feed [(77, .aload_n 0, .null)] := sblk_of (by decide +kernel)
theorem d_c_Mo_feed_78 : decode b_Mo_feed 78 = .ok (.getfield 116, 3) := by decide +kernel
theorem k_c_Mo_feed_81_3 : sblk b_Mo_feed [(81, .iload 7, .null), (83, .iadd, .null), (84, .iload 7, .null)] := sblk_of (by decide +kernel)
theorem d_c_Mo_feed_86 : decode b_Mo_feed 86 = .ok (.ifCond .ne 7, 3) := by decide +kernel
theorem k_c_Mo_feed_89_2 : sblk b_Mo_feed [(89, .iload_n 2, .null), (90, .goto 37, .retAddr 127)] := sblk_of (by decide +kernel)
theorem d_c_Mo_feed_127 : decode b_Mo_feed 127 = .ok (.iastore, 1) := by decide +kernel
theorem k_c_Mo_feed_128_2 : sblk b_Mo_feed [(128, .iinc 7 1, .int 1), (131, .goto (-64), .retAddr 67)] := sblk_of (by decide +kernel)
theorem k_c_Mo_feed_67_2 : sblk b_Mo_feed [(67, .iload 7, .null), (69, .iload_n 1, .null)] := sblk_of (by decide +kernel)
theorem k_c_Mo_feed_134_2 : sblk b_Mo_feed [(134, .aload_n 0, .null), (135, .dup, .null)] := sblk_of (by decide +kernel)
theorem d_c_Mo_feed_136 : decode b_Mo_feed 136 = .ok (.getfield 116, 3) := by decide +kernel
theorem k_c_Mo_feed_139_2 : sblk b_Mo_feed [(139, .iload_n 1, .null), (140, .iadd, .null)] := sblk_of (by decide +kernel)
theorem d_c_Mo_feed_141 : decode b_Mo_feed 141 = .ok (.putfield 116, 3) := by decide +kernel
theorem k_c_Mo_feed_144_1 : sblk b_Mo_feed [(144, .aload_n 0, .null)] := sblk_of (by decide +kernel)
theorem d_c_Mo_feed_145 : decode b_Mo_feed 145 = .ok (.getfield 116, 3) := by decide +kernel
theorem d_c_Mo_feed_148 : decode b_Mo_feed 148 = .ok (.ireturn, 1) := by decide +kernel
theorem k_c_Mo_feed_93_2 : sblk b_Mo_feed [(93, .iload 7, .null), (95, .iconst 1, .int 1)] := sblk_of (by decide +kernel)
theorem d_c_Mo_feed_96 : decode b_Mo_feed 96 = .ok (.if_icmp .ne 7, 3) := by decide +kernel
theorem k_c_Mo_feed_99_2 : sblk b_Mo_feed [(99, .iload_n 3, .null), (100, .goto 27, .retAddr 127)] := sblk_of (by decide +kernel)
theorem k_c_Mo_feed_103_2 : sblk b_Mo_feed [(103, .iload 7, .null), (105, .iconst 2, .int 2)] := sblk_of (by decide +kernel)
theorem d_c_Mo_feed_106 : decode b_Mo_feed 106 = .ok (.if_icmp .ne 8, 3) := by decide +kernel
theorem k_c_Mo_feed_109_2 : sblk b_Mo_feed [(109, .iload 4, .null), (111, .goto 16, .retAddr 127)] := sblk_of (by decide +kernel)
theorem k_c_Mo_feed_114_2 : sblk b_Mo_feed [(114, .iload 7, .null), (116, .iconst 3, .int 3)] := sblk_of (by decide +kernel)
theorem d_c_Mo_feed_117 : decode b_Mo_feed 117 = .ok (.if_icmp .ne 8, 3) := by decide +kernel
theorem k_c_Mo_feed_120_2 : sblk b_Mo_feed [(120, .iload 5, .null), (122, .goto 5, .retAddr 127)] := sblk_of (by decide +kernel)
theorem k_c_Mo_feed_125_1 : sblk b_Mo_feed [(125, .iload 6, .null)] := sblk_of (by decide +kernel)
set_option maxHeartbeats 40000000 in
set_option maxRecDepth 100000 in
theorem c_Mo_feed (l : Launch) (D : va_G) (B : Nat) (H0 : Heap) (w : jW) (x tp : Nat) (V : Nat → Value) (n a b c d e : Int32) (hx : w.1 x = some (.inr (10, V))) (h0 : V 21 = .ref tp) (h1 : V 22 = .int 0) (ht : w.1 tp = some (aI D 120 (fun _ => 0))) (q : Nat) (xq : x < q) (tq : tp < q) : jMet l D B H0 y_Mo_feed b_Mo_feed 8 (some .int) 3 160 0 0 [.ref x, .int n, .int a, .int b, .int c, .int d, .int e] w (fun v w9 => v = some (.int (an_feed n a b c d e)) ∧ jfr (fun b => q ≤ b) w w9) := by
  refine j_met (by decide) (Nat.le_of_ble_eq_true rfl) (fun g C Rm Y E => ?_)
  have hk := jkz w
  have fr0 : jfr (fun b => q ≤ b) w w := jfr0
  show JJ g w 0 [(0, .ref x), (1, .int n), (2, .int a), (3, .int b), (4, .int c), (5, .int d), (6, .int e)] []
  refine j_blk 3 [(0, .ref x), (1, .int n), (2, .int a), (3, .int b), (4, .int c), (5, .int d), (6, .int e)] [.int 5, .int 1, .int n] C k_c_Mo_feed_0_3 rfl ?_
  refine j_callS (As := [.int n, .int 1, .int 5]) C Rm Y [] (c_Mo_in l D B H0 w n 1 5) cl_Mo_108 d_c_Mo_feed_3 rfl rfl (Nat.le_of_ble_eq_true rfl) ⟨by decide, by decide⟩ ⟨jroom hk.1 rfl, jroom hk.2 rfl⟩ (fun v1 w_1 pw_1 => ?_)
  obtain ⟨rfl, rfl⟩ := pw_1
  show JJ g w 6 [(0, .ref x), (1, .int n), (2, .int a), (3, .int b), (4, .int c), (5, .int d), (6, .int e)] [.int (if (1 : Int32).toInt ≤ n.toInt ∧ n.toInt ≤ (5 : Int32).toInt then 1 else 0)]
  refine j_if_eq (tgt := 47) C d_c_Mo_feed_6 (by decide) (fun c2 => ?_) (fun c2 => ?_)
  · have c2 := jbz.mp c2
    refine j_blk 49 [(0, .ref x), (1, .int n), (2, .int a), (3, .int b), (4, .int c), (5, .int d), (6, .int e)] [.int (-2)] C k_c_Mo_feed_47_1 rfl ?_
    exact j_iret C Rm E d_c_Mo_feed_49 ⟨jin_ (fun hq => absurd hq (by (try simp only [jlt, jle, jeq, kt_0, kt_1, kt_2, kt_3, kt_4, kt_5, kt_6, kt_7, kt_8, kt_9, kt_10, kt_11, kt_12, kt_13, kt_15, kt_16, kt_19, kt_20, kt_24, kt_25, kt_31, kt_32, kt_40, kt_50, kt_60, kt_63, kt_100, kt_120, kt_255, kt_300, kt_999999, kt_1000000, kt_m1, kt_m2, kt_m3, kt_m4, kt_m6, kt_m7, kt_m11, kt_m12, kt_m13, kt_m14, kt_m100] at c2); (try simp only [kt_0, kt_1, kt_2, kt_3, kt_4, kt_5, kt_6, kt_7, kt_8, kt_9, kt_10, kt_11, kt_12, kt_13, kt_15, kt_16, kt_19, kt_20, kt_24, kt_25, kt_31, kt_32, kt_40, kt_50, kt_60, kt_63, kt_100, kt_120, kt_255, kt_300, kt_999999, kt_1000000, kt_m1, kt_m2, kt_m3, kt_m4, kt_m6, kt_m7, kt_m11, kt_m12, kt_m13, kt_m14, kt_m100]); omega)), fr0⟩ (jbnd hk.1 rfl) (jbnd hk.2 rfl)
  · have c2 := jbo.mp c2
    refine j_blk 10 [(0, .ref x), (1, .int n), (2, .int a), (3, .int b), (4, .int c), (5, .int d), (6, .int e)] [.int a] C k_c_Mo_feed_9_1 rfl ?_
    refine j_callS (As := [.int a]) C Rm Y [] (c_Mo_isByte l D B H0 w a) cl_Mo_112 d_c_Mo_feed_10 rfl rfl (Nat.le_of_ble_eq_true rfl) ⟨by decide, by decide⟩ ⟨jroom hk.1 rfl, jroom hk.2 rfl⟩ (fun v3 w_2 pw_2 => ?_)
    obtain ⟨rfl, rfl⟩ := pw_2
    show JJ g w 13 [(0, .ref x), (1, .int n), (2, .int a), (3, .int b), (4, .int c), (5, .int d), (6, .int e)] [.int (if (0 : Int32).toInt ≤ a.toInt ∧ a.toInt ≤ (255 : Int32).toInt then 1 else 0)]
    refine j_if_eq (tgt := 47) C d_c_Mo_feed_13 (by decide) (fun c4 => ?_) (fun c4 => ?_)
    · have c4 := jbz.mp c4
      refine j_blk 49 [(0, .ref x), (1, .int n), (2, .int a), (3, .int b), (4, .int c), (5, .int d), (6, .int e)] [.int (-2)] C k_c_Mo_feed_47_1 rfl ?_
      exact j_iret C Rm E d_c_Mo_feed_49 ⟨jin_ (fun hq => absurd hq (by (try simp only [jlt, jle, jeq, kt_0, kt_1, kt_2, kt_3, kt_4, kt_5, kt_6, kt_7, kt_8, kt_9, kt_10, kt_11, kt_12, kt_13, kt_15, kt_16, kt_19, kt_20, kt_24, kt_25, kt_31, kt_32, kt_40, kt_50, kt_60, kt_63, kt_100, kt_120, kt_255, kt_300, kt_999999, kt_1000000, kt_m1, kt_m2, kt_m3, kt_m4, kt_m6, kt_m7, kt_m11, kt_m12, kt_m13, kt_m14, kt_m100] at c2); (try simp only [jlt, jle, jeq, kt_0, kt_1, kt_2, kt_3, kt_4, kt_5, kt_6, kt_7, kt_8, kt_9, kt_10, kt_11, kt_12, kt_13, kt_15, kt_16, kt_19, kt_20, kt_24, kt_25, kt_31, kt_32, kt_40, kt_50, kt_60, kt_63, kt_100, kt_120, kt_255, kt_300, kt_999999, kt_1000000, kt_m1, kt_m2, kt_m3, kt_m4, kt_m6, kt_m7, kt_m11, kt_m12, kt_m13, kt_m14, kt_m100] at c4); (try simp only [kt_0, kt_1, kt_2, kt_3, kt_4, kt_5, kt_6, kt_7, kt_8, kt_9, kt_10, kt_11, kt_12, kt_13, kt_15, kt_16, kt_19, kt_20, kt_24, kt_25, kt_31, kt_32, kt_40, kt_50, kt_60, kt_63, kt_100, kt_120, kt_255, kt_300, kt_999999, kt_1000000, kt_m1, kt_m2, kt_m3, kt_m4, kt_m6, kt_m7, kt_m11, kt_m12, kt_m13, kt_m14, kt_m100]); omega)), fr0⟩ (jbnd hk.1 rfl) (jbnd hk.2 rfl)
    · have c4 := jbo.mp c4
      refine j_blk 17 [(0, .ref x), (1, .int n), (2, .int a), (3, .int b), (4, .int c), (5, .int d), (6, .int e)] [.int b] C k_c_Mo_feed_16_1 rfl ?_
      refine j_callS (As := [.int b]) C Rm Y [] (c_Mo_isByte l D B H0 w b) cl_Mo_112 d_c_Mo_feed_17 rfl rfl (Nat.le_of_ble_eq_true rfl) ⟨by decide, by decide⟩ ⟨jroom hk.1 rfl, jroom hk.2 rfl⟩ (fun v5 w_3 pw_3 => ?_)
      obtain ⟨rfl, rfl⟩ := pw_3
      show JJ g w 20 [(0, .ref x), (1, .int n), (2, .int a), (3, .int b), (4, .int c), (5, .int d), (6, .int e)] [.int (if (0 : Int32).toInt ≤ b.toInt ∧ b.toInt ≤ (255 : Int32).toInt then 1 else 0)]
      refine j_if_eq (tgt := 47) C d_c_Mo_feed_20 (by decide) (fun c6 => ?_) (fun c6 => ?_)
      · have c6 := jbz.mp c6
        refine j_blk 49 [(0, .ref x), (1, .int n), (2, .int a), (3, .int b), (4, .int c), (5, .int d), (6, .int e)] [.int (-2)] C k_c_Mo_feed_47_1 rfl ?_
        exact j_iret C Rm E d_c_Mo_feed_49 ⟨jin_ (fun hq => absurd hq (by (try simp only [jlt, jle, jeq, kt_0, kt_1, kt_2, kt_3, kt_4, kt_5, kt_6, kt_7, kt_8, kt_9, kt_10, kt_11, kt_12, kt_13, kt_15, kt_16, kt_19, kt_20, kt_24, kt_25, kt_31, kt_32, kt_40, kt_50, kt_60, kt_63, kt_100, kt_120, kt_255, kt_300, kt_999999, kt_1000000, kt_m1, kt_m2, kt_m3, kt_m4, kt_m6, kt_m7, kt_m11, kt_m12, kt_m13, kt_m14, kt_m100] at c2); (try simp only [jlt, jle, jeq, kt_0, kt_1, kt_2, kt_3, kt_4, kt_5, kt_6, kt_7, kt_8, kt_9, kt_10, kt_11, kt_12, kt_13, kt_15, kt_16, kt_19, kt_20, kt_24, kt_25, kt_31, kt_32, kt_40, kt_50, kt_60, kt_63, kt_100, kt_120, kt_255, kt_300, kt_999999, kt_1000000, kt_m1, kt_m2, kt_m3, kt_m4, kt_m6, kt_m7, kt_m11, kt_m12, kt_m13, kt_m14, kt_m100] at c4); (try simp only [jlt, jle, jeq, kt_0, kt_1, kt_2, kt_3, kt_4, kt_5, kt_6, kt_7, kt_8, kt_9, kt_10, kt_11, kt_12, kt_13, kt_15, kt_16, kt_19, kt_20, kt_24, kt_25, kt_31, kt_32, kt_40, kt_50, kt_60, kt_63, kt_100, kt_120, kt_255, kt_300, kt_999999, kt_1000000, kt_m1, kt_m2, kt_m3, kt_m4, kt_m6, kt_m7, kt_m11, kt_m12, kt_m13, kt_m14, kt_m100] at c6); (try simp only [kt_0, kt_1, kt_2, kt_3, kt_4, kt_5, kt_6, kt_7, kt_8, kt_9, kt_10, kt_11, kt_12, kt_13, kt_15, kt_16, kt_19, kt_20, kt_24, kt_25, kt_31, kt_32, kt_40, kt_50, kt_60, kt_63, kt_100, kt_120, kt_255, kt_300, kt_999999, kt_1000000, kt_m1, kt_m2, kt_m3, kt_m4, kt_m6, kt_m7, kt_m11, kt_m12, kt_m13, kt_m14, kt_m100]); omega)), fr0⟩ (jbnd hk.1 rfl) (jbnd hk.2 rfl)
      · have c6 := jbo.mp c6
        refine j_blk 25 [(0, .ref x), (1, .int n), (2, .int a), (3, .int b), (4, .int c), (5, .int d), (6, .int e)] [.int c] C k_c_Mo_feed_23_1 rfl ?_
        refine j_callS (As := [.int c]) C Rm Y [] (c_Mo_isByte l D B H0 w c) cl_Mo_112 d_c_Mo_feed_25 rfl rfl (Nat.le_of_ble_eq_true rfl) ⟨by decide, by decide⟩ ⟨jroom hk.1 rfl, jroom hk.2 rfl⟩ (fun v7 w_4 pw_4 => ?_)
        obtain ⟨rfl, rfl⟩ := pw_4
        show JJ g w 28 [(0, .ref x), (1, .int n), (2, .int a), (3, .int b), (4, .int c), (5, .int d), (6, .int e)] [.int (if (0 : Int32).toInt ≤ c.toInt ∧ c.toInt ≤ (255 : Int32).toInt then 1 else 0)]
        refine j_if_eq (tgt := 47) C d_c_Mo_feed_28 (by decide) (fun c8 => ?_) (fun c8 => ?_)
        · have c8 := jbz.mp c8
          refine j_blk 49 [(0, .ref x), (1, .int n), (2, .int a), (3, .int b), (4, .int c), (5, .int d), (6, .int e)] [.int (-2)] C k_c_Mo_feed_47_1 rfl ?_
          exact j_iret C Rm E d_c_Mo_feed_49 ⟨jin_ (fun hq => absurd hq (by (try simp only [jlt, jle, jeq, kt_0, kt_1, kt_2, kt_3, kt_4, kt_5, kt_6, kt_7, kt_8, kt_9, kt_10, kt_11, kt_12, kt_13, kt_15, kt_16, kt_19, kt_20, kt_24, kt_25, kt_31, kt_32, kt_40, kt_50, kt_60, kt_63, kt_100, kt_120, kt_255, kt_300, kt_999999, kt_1000000, kt_m1, kt_m2, kt_m3, kt_m4, kt_m6, kt_m7, kt_m11, kt_m12, kt_m13, kt_m14, kt_m100] at c2); (try simp only [jlt, jle, jeq, kt_0, kt_1, kt_2, kt_3, kt_4, kt_5, kt_6, kt_7, kt_8, kt_9, kt_10, kt_11, kt_12, kt_13, kt_15, kt_16, kt_19, kt_20, kt_24, kt_25, kt_31, kt_32, kt_40, kt_50, kt_60, kt_63, kt_100, kt_120, kt_255, kt_300, kt_999999, kt_1000000, kt_m1, kt_m2, kt_m3, kt_m4, kt_m6, kt_m7, kt_m11, kt_m12, kt_m13, kt_m14, kt_m100] at c4); (try simp only [jlt, jle, jeq, kt_0, kt_1, kt_2, kt_3, kt_4, kt_5, kt_6, kt_7, kt_8, kt_9, kt_10, kt_11, kt_12, kt_13, kt_15, kt_16, kt_19, kt_20, kt_24, kt_25, kt_31, kt_32, kt_40, kt_50, kt_60, kt_63, kt_100, kt_120, kt_255, kt_300, kt_999999, kt_1000000, kt_m1, kt_m2, kt_m3, kt_m4, kt_m6, kt_m7, kt_m11, kt_m12, kt_m13, kt_m14, kt_m100] at c6); (try simp only [jlt, jle, jeq, kt_0, kt_1, kt_2, kt_3, kt_4, kt_5, kt_6, kt_7, kt_8, kt_9, kt_10, kt_11, kt_12, kt_13, kt_15, kt_16, kt_19, kt_20, kt_24, kt_25, kt_31, kt_32, kt_40, kt_50, kt_60, kt_63, kt_100, kt_120, kt_255, kt_300, kt_999999, kt_1000000, kt_m1, kt_m2, kt_m3, kt_m4, kt_m6, kt_m7, kt_m11, kt_m12, kt_m13, kt_m14, kt_m100] at c8); (try simp only [kt_0, kt_1, kt_2, kt_3, kt_4, kt_5, kt_6, kt_7, kt_8, kt_9, kt_10, kt_11, kt_12, kt_13, kt_15, kt_16, kt_19, kt_20, kt_24, kt_25, kt_31, kt_32, kt_40, kt_50, kt_60, kt_63, kt_100, kt_120, kt_255, kt_300, kt_999999, kt_1000000, kt_m1, kt_m2, kt_m3, kt_m4, kt_m6, kt_m7, kt_m11, kt_m12, kt_m13, kt_m14, kt_m100]); omega)), fr0⟩ (jbnd hk.1 rfl) (jbnd hk.2 rfl)
        · have c8 := jbo.mp c8
          refine j_blk 33 [(0, .ref x), (1, .int n), (2, .int a), (3, .int b), (4, .int c), (5, .int d), (6, .int e)] [.int d] C k_c_Mo_feed_31_1 rfl ?_
          refine j_callS (As := [.int d]) C Rm Y [] (c_Mo_isByte l D B H0 w d) cl_Mo_112 d_c_Mo_feed_33 rfl rfl (Nat.le_of_ble_eq_true rfl) ⟨by decide, by decide⟩ ⟨jroom hk.1 rfl, jroom hk.2 rfl⟩ (fun v9 w_5 pw_5 => ?_)
          obtain ⟨rfl, rfl⟩ := pw_5
          show JJ g w 36 [(0, .ref x), (1, .int n), (2, .int a), (3, .int b), (4, .int c), (5, .int d), (6, .int e)] [.int (if (0 : Int32).toInt ≤ d.toInt ∧ d.toInt ≤ (255 : Int32).toInt then 1 else 0)]
          refine j_if_eq (tgt := 47) C d_c_Mo_feed_36 (by decide) (fun c10 => ?_) (fun c10 => ?_)
          · have c10 := jbz.mp c10
            refine j_blk 49 [(0, .ref x), (1, .int n), (2, .int a), (3, .int b), (4, .int c), (5, .int d), (6, .int e)] [.int (-2)] C k_c_Mo_feed_47_1 rfl ?_
            exact j_iret C Rm E d_c_Mo_feed_49 ⟨jin_ (fun hq => absurd hq (by (try simp only [jlt, jle, jeq, kt_0, kt_1, kt_2, kt_3, kt_4, kt_5, kt_6, kt_7, kt_8, kt_9, kt_10, kt_11, kt_12, kt_13, kt_15, kt_16, kt_19, kt_20, kt_24, kt_25, kt_31, kt_32, kt_40, kt_50, kt_60, kt_63, kt_100, kt_120, kt_255, kt_300, kt_999999, kt_1000000, kt_m1, kt_m2, kt_m3, kt_m4, kt_m6, kt_m7, kt_m11, kt_m12, kt_m13, kt_m14, kt_m100] at c2); (try simp only [jlt, jle, jeq, kt_0, kt_1, kt_2, kt_3, kt_4, kt_5, kt_6, kt_7, kt_8, kt_9, kt_10, kt_11, kt_12, kt_13, kt_15, kt_16, kt_19, kt_20, kt_24, kt_25, kt_31, kt_32, kt_40, kt_50, kt_60, kt_63, kt_100, kt_120, kt_255, kt_300, kt_999999, kt_1000000, kt_m1, kt_m2, kt_m3, kt_m4, kt_m6, kt_m7, kt_m11, kt_m12, kt_m13, kt_m14, kt_m100] at c4); (try simp only [jlt, jle, jeq, kt_0, kt_1, kt_2, kt_3, kt_4, kt_5, kt_6, kt_7, kt_8, kt_9, kt_10, kt_11, kt_12, kt_13, kt_15, kt_16, kt_19, kt_20, kt_24, kt_25, kt_31, kt_32, kt_40, kt_50, kt_60, kt_63, kt_100, kt_120, kt_255, kt_300, kt_999999, kt_1000000, kt_m1, kt_m2, kt_m3, kt_m4, kt_m6, kt_m7, kt_m11, kt_m12, kt_m13, kt_m14, kt_m100] at c6); (try simp only [jlt, jle, jeq, kt_0, kt_1, kt_2, kt_3, kt_4, kt_5, kt_6, kt_7, kt_8, kt_9, kt_10, kt_11, kt_12, kt_13, kt_15, kt_16, kt_19, kt_20, kt_24, kt_25, kt_31, kt_32, kt_40, kt_50, kt_60, kt_63, kt_100, kt_120, kt_255, kt_300, kt_999999, kt_1000000, kt_m1, kt_m2, kt_m3, kt_m4, kt_m6, kt_m7, kt_m11, kt_m12, kt_m13, kt_m14, kt_m100] at c8); (try simp only [jlt, jle, jeq, kt_0, kt_1, kt_2, kt_3, kt_4, kt_5, kt_6, kt_7, kt_8, kt_9, kt_10, kt_11, kt_12, kt_13, kt_15, kt_16, kt_19, kt_20, kt_24, kt_25, kt_31, kt_32, kt_40, kt_50, kt_60, kt_63, kt_100, kt_120, kt_255, kt_300, kt_999999, kt_1000000, kt_m1, kt_m2, kt_m3, kt_m4, kt_m6, kt_m7, kt_m11, kt_m12, kt_m13, kt_m14, kt_m100] at c10); (try simp only [kt_0, kt_1, kt_2, kt_3, kt_4, kt_5, kt_6, kt_7, kt_8, kt_9, kt_10, kt_11, kt_12, kt_13, kt_15, kt_16, kt_19, kt_20, kt_24, kt_25, kt_31, kt_32, kt_40, kt_50, kt_60, kt_63, kt_100, kt_120, kt_255, kt_300, kt_999999, kt_1000000, kt_m1, kt_m2, kt_m3, kt_m4, kt_m6, kt_m7, kt_m11, kt_m12, kt_m13, kt_m14, kt_m100]); omega)), fr0⟩ (jbnd hk.1 rfl) (jbnd hk.2 rfl)
          · have c10 := jbo.mp c10
            refine j_blk 41 [(0, .ref x), (1, .int n), (2, .int a), (3, .int b), (4, .int c), (5, .int d), (6, .int e)] [.int e] C k_c_Mo_feed_39_1 rfl ?_
            refine j_callS (As := [.int e]) C Rm Y [] (c_Mo_isByte l D B H0 w e) cl_Mo_112 d_c_Mo_feed_41 rfl rfl (Nat.le_of_ble_eq_true rfl) ⟨by decide, by decide⟩ ⟨jroom hk.1 rfl, jroom hk.2 rfl⟩ (fun v11 w_6 pw_6 => ?_)
            obtain ⟨rfl, rfl⟩ := pw_6
            show JJ g w 44 [(0, .ref x), (1, .int n), (2, .int a), (3, .int b), (4, .int c), (5, .int d), (6, .int e)] [.int (if (0 : Int32).toInt ≤ e.toInt ∧ e.toInt ≤ (255 : Int32).toInt then 1 else 0)]
            refine j_if_ne (tgt := 50) C d_c_Mo_feed_44 (by decide) (fun c12 => ?_) (fun c12 => ?_)
            · have c12 := jbo.mp c12
              have hn : n = 1 ∨ n = 2 ∨ n = 3 ∨ n = 4 ∨ n = 5 := by
                have g1 : 1 ≤ n.toInt ∧ n.toInt ≤ 5 := (by (try simp only [jlt, jle, jeq, kt_0, kt_1, kt_2, kt_3, kt_4, kt_5, kt_6, kt_7, kt_8, kt_9, kt_10, kt_11, kt_12, kt_13, kt_15, kt_16, kt_19, kt_20, kt_24, kt_25, kt_31, kt_32, kt_40, kt_50, kt_60, kt_63, kt_100, kt_120, kt_255, kt_300, kt_999999, kt_1000000, kt_m1, kt_m2, kt_m3, kt_m4, kt_m6, kt_m7, kt_m11, kt_m12, kt_m13, kt_m14, kt_m100] at c2); (try simp only [jlt, jle, jeq, kt_0, kt_1, kt_2, kt_3, kt_4, kt_5, kt_6, kt_7, kt_8, kt_9, kt_10, kt_11, kt_12, kt_13, kt_15, kt_16, kt_19, kt_20, kt_24, kt_25, kt_31, kt_32, kt_40, kt_50, kt_60, kt_63, kt_100, kt_120, kt_255, kt_300, kt_999999, kt_1000000, kt_m1, kt_m2, kt_m3, kt_m4, kt_m6, kt_m7, kt_m11, kt_m12, kt_m13, kt_m14, kt_m100] at c4); (try simp only [jlt, jle, jeq, kt_0, kt_1, kt_2, kt_3, kt_4, kt_5, kt_6, kt_7, kt_8, kt_9, kt_10, kt_11, kt_12, kt_13, kt_15, kt_16, kt_19, kt_20, kt_24, kt_25, kt_31, kt_32, kt_40, kt_50, kt_60, kt_63, kt_100, kt_120, kt_255, kt_300, kt_999999, kt_1000000, kt_m1, kt_m2, kt_m3, kt_m4, kt_m6, kt_m7, kt_m11, kt_m12, kt_m13, kt_m14, kt_m100] at c6); (try simp only [jlt, jle, jeq, kt_0, kt_1, kt_2, kt_3, kt_4, kt_5, kt_6, kt_7, kt_8, kt_9, kt_10, kt_11, kt_12, kt_13, kt_15, kt_16, kt_19, kt_20, kt_24, kt_25, kt_31, kt_32, kt_40, kt_50, kt_60, kt_63, kt_100, kt_120, kt_255, kt_300, kt_999999, kt_1000000, kt_m1, kt_m2, kt_m3, kt_m4, kt_m6, kt_m7, kt_m11, kt_m12, kt_m13, kt_m14, kt_m100] at c8); (try simp only [jlt, jle, jeq, kt_0, kt_1, kt_2, kt_3, kt_4, kt_5, kt_6, kt_7, kt_8, kt_9, kt_10, kt_11, kt_12, kt_13, kt_15, kt_16, kt_19, kt_20, kt_24, kt_25, kt_31, kt_32, kt_40, kt_50, kt_60, kt_63, kt_100, kt_120, kt_255, kt_300, kt_999999, kt_1000000, kt_m1, kt_m2, kt_m3, kt_m4, kt_m6, kt_m7, kt_m11, kt_m12, kt_m13, kt_m14, kt_m100] at c10); (try simp only [jlt, jle, jeq, kt_0, kt_1, kt_2, kt_3, kt_4, kt_5, kt_6, kt_7, kt_8, kt_9, kt_10, kt_11, kt_12, kt_13, kt_15, kt_16, kt_19, kt_20, kt_24, kt_25, kt_31, kt_32, kt_40, kt_50, kt_60, kt_63, kt_100, kt_120, kt_255, kt_300, kt_999999, kt_1000000, kt_m1, kt_m2, kt_m3, kt_m4, kt_m6, kt_m7, kt_m11, kt_m12, kt_m13, kt_m14, kt_m100] at c12); (try simp only [kt_0, kt_1, kt_2, kt_3, kt_4, kt_5, kt_6, kt_7, kt_8, kt_9, kt_10, kt_11, kt_12, kt_13, kt_15, kt_16, kt_19, kt_20, kt_24, kt_25, kt_31, kt_32, kt_40, kt_50, kt_60, kt_63, kt_100, kt_120, kt_255, kt_300, kt_999999, kt_1000000, kt_m1, kt_m2, kt_m3, kt_m4, kt_m6, kt_m7, kt_m11, kt_m12, kt_m13, kt_m14, kt_m100]); omega)
                simp only [jeq, kt_0, kt_1, kt_2, kt_3, kt_4, kt_5, kt_6, kt_7, kt_8, kt_9, kt_10, kt_11, kt_12, kt_13, kt_15, kt_16, kt_19, kt_20, kt_24, kt_25, kt_31, kt_32, kt_40, kt_50, kt_60, kt_63, kt_100, kt_120, kt_255, kt_300, kt_999999, kt_1000000, kt_m1, kt_m2, kt_m3, kt_m4, kt_m6, kt_m7, kt_m11, kt_m12, kt_m13, kt_m14, kt_m100]; clear hk; omega
              have hal : (1 ≤ n.toInt ∧ n.toInt ≤ 5) ∧ (0 ≤ a.toInt ∧ a.toInt ≤ 255) ∧ (0 ≤ b.toInt ∧ b.toInt ≤ 255) ∧ (0 ≤ c.toInt ∧ c.toInt ≤ 255) ∧ (0 ≤ d.toInt ∧ d.toInt ≤ 255) ∧ (0 ≤ e.toInt ∧ e.toInt ≤ 255) := ⟨(by (try simp only [jlt, jle, jeq, kt_0, kt_1, kt_2, kt_3, kt_4, kt_5, kt_6, kt_7, kt_8, kt_9, kt_10, kt_11, kt_12, kt_13, kt_15, kt_16, kt_19, kt_20, kt_24, kt_25, kt_31, kt_32, kt_40, kt_50, kt_60, kt_63, kt_100, kt_120, kt_255, kt_300, kt_999999, kt_1000000, kt_m1, kt_m2, kt_m3, kt_m4, kt_m6, kt_m7, kt_m11, kt_m12, kt_m13, kt_m14, kt_m100] at c2); (try simp only [jlt, jle, jeq, kt_0, kt_1, kt_2, kt_3, kt_4, kt_5, kt_6, kt_7, kt_8, kt_9, kt_10, kt_11, kt_12, kt_13, kt_15, kt_16, kt_19, kt_20, kt_24, kt_25, kt_31, kt_32, kt_40, kt_50, kt_60, kt_63, kt_100, kt_120, kt_255, kt_300, kt_999999, kt_1000000, kt_m1, kt_m2, kt_m3, kt_m4, kt_m6, kt_m7, kt_m11, kt_m12, kt_m13, kt_m14, kt_m100] at c4); (try simp only [jlt, jle, jeq, kt_0, kt_1, kt_2, kt_3, kt_4, kt_5, kt_6, kt_7, kt_8, kt_9, kt_10, kt_11, kt_12, kt_13, kt_15, kt_16, kt_19, kt_20, kt_24, kt_25, kt_31, kt_32, kt_40, kt_50, kt_60, kt_63, kt_100, kt_120, kt_255, kt_300, kt_999999, kt_1000000, kt_m1, kt_m2, kt_m3, kt_m4, kt_m6, kt_m7, kt_m11, kt_m12, kt_m13, kt_m14, kt_m100] at c6); (try simp only [jlt, jle, jeq, kt_0, kt_1, kt_2, kt_3, kt_4, kt_5, kt_6, kt_7, kt_8, kt_9, kt_10, kt_11, kt_12, kt_13, kt_15, kt_16, kt_19, kt_20, kt_24, kt_25, kt_31, kt_32, kt_40, kt_50, kt_60, kt_63, kt_100, kt_120, kt_255, kt_300, kt_999999, kt_1000000, kt_m1, kt_m2, kt_m3, kt_m4, kt_m6, kt_m7, kt_m11, kt_m12, kt_m13, kt_m14, kt_m100] at c8); (try simp only [jlt, jle, jeq, kt_0, kt_1, kt_2, kt_3, kt_4, kt_5, kt_6, kt_7, kt_8, kt_9, kt_10, kt_11, kt_12, kt_13, kt_15, kt_16, kt_19, kt_20, kt_24, kt_25, kt_31, kt_32, kt_40, kt_50, kt_60, kt_63, kt_100, kt_120, kt_255, kt_300, kt_999999, kt_1000000, kt_m1, kt_m2, kt_m3, kt_m4, kt_m6, kt_m7, kt_m11, kt_m12, kt_m13, kt_m14, kt_m100] at c10); (try simp only [jlt, jle, jeq, kt_0, kt_1, kt_2, kt_3, kt_4, kt_5, kt_6, kt_7, kt_8, kt_9, kt_10, kt_11, kt_12, kt_13, kt_15, kt_16, kt_19, kt_20, kt_24, kt_25, kt_31, kt_32, kt_40, kt_50, kt_60, kt_63, kt_100, kt_120, kt_255, kt_300, kt_999999, kt_1000000, kt_m1, kt_m2, kt_m3, kt_m4, kt_m6, kt_m7, kt_m11, kt_m12, kt_m13, kt_m14, kt_m100] at c12); show 1 ≤ n.toInt ∧ n.toInt ≤ 5; (try simp only [kt_0, kt_1, kt_2, kt_3, kt_4, kt_5, kt_6, kt_7, kt_8, kt_9, kt_10, kt_11, kt_12, kt_13, kt_15, kt_16, kt_19, kt_20, kt_24, kt_25, kt_31, kt_32, kt_40, kt_50, kt_60, kt_63, kt_100, kt_120, kt_255, kt_300, kt_999999, kt_1000000, kt_m1, kt_m2, kt_m3, kt_m4, kt_m6, kt_m7, kt_m11, kt_m12, kt_m13, kt_m14, kt_m100]); omega), (by (try simp only [jlt, jle, jeq, kt_0, kt_1, kt_2, kt_3, kt_4, kt_5, kt_6, kt_7, kt_8, kt_9, kt_10, kt_11, kt_12, kt_13, kt_15, kt_16, kt_19, kt_20, kt_24, kt_25, kt_31, kt_32, kt_40, kt_50, kt_60, kt_63, kt_100, kt_120, kt_255, kt_300, kt_999999, kt_1000000, kt_m1, kt_m2, kt_m3, kt_m4, kt_m6, kt_m7, kt_m11, kt_m12, kt_m13, kt_m14, kt_m100] at c2); (try simp only [jlt, jle, jeq, kt_0, kt_1, kt_2, kt_3, kt_4, kt_5, kt_6, kt_7, kt_8, kt_9, kt_10, kt_11, kt_12, kt_13, kt_15, kt_16, kt_19, kt_20, kt_24, kt_25, kt_31, kt_32, kt_40, kt_50, kt_60, kt_63, kt_100, kt_120, kt_255, kt_300, kt_999999, kt_1000000, kt_m1, kt_m2, kt_m3, kt_m4, kt_m6, kt_m7, kt_m11, kt_m12, kt_m13, kt_m14, kt_m100] at c4); (try simp only [jlt, jle, jeq, kt_0, kt_1, kt_2, kt_3, kt_4, kt_5, kt_6, kt_7, kt_8, kt_9, kt_10, kt_11, kt_12, kt_13, kt_15, kt_16, kt_19, kt_20, kt_24, kt_25, kt_31, kt_32, kt_40, kt_50, kt_60, kt_63, kt_100, kt_120, kt_255, kt_300, kt_999999, kt_1000000, kt_m1, kt_m2, kt_m3, kt_m4, kt_m6, kt_m7, kt_m11, kt_m12, kt_m13, kt_m14, kt_m100] at c6); (try simp only [jlt, jle, jeq, kt_0, kt_1, kt_2, kt_3, kt_4, kt_5, kt_6, kt_7, kt_8, kt_9, kt_10, kt_11, kt_12, kt_13, kt_15, kt_16, kt_19, kt_20, kt_24, kt_25, kt_31, kt_32, kt_40, kt_50, kt_60, kt_63, kt_100, kt_120, kt_255, kt_300, kt_999999, kt_1000000, kt_m1, kt_m2, kt_m3, kt_m4, kt_m6, kt_m7, kt_m11, kt_m12, kt_m13, kt_m14, kt_m100] at c8); (try simp only [jlt, jle, jeq, kt_0, kt_1, kt_2, kt_3, kt_4, kt_5, kt_6, kt_7, kt_8, kt_9, kt_10, kt_11, kt_12, kt_13, kt_15, kt_16, kt_19, kt_20, kt_24, kt_25, kt_31, kt_32, kt_40, kt_50, kt_60, kt_63, kt_100, kt_120, kt_255, kt_300, kt_999999, kt_1000000, kt_m1, kt_m2, kt_m3, kt_m4, kt_m6, kt_m7, kt_m11, kt_m12, kt_m13, kt_m14, kt_m100] at c10); (try simp only [jlt, jle, jeq, kt_0, kt_1, kt_2, kt_3, kt_4, kt_5, kt_6, kt_7, kt_8, kt_9, kt_10, kt_11, kt_12, kt_13, kt_15, kt_16, kt_19, kt_20, kt_24, kt_25, kt_31, kt_32, kt_40, kt_50, kt_60, kt_63, kt_100, kt_120, kt_255, kt_300, kt_999999, kt_1000000, kt_m1, kt_m2, kt_m3, kt_m4, kt_m6, kt_m7, kt_m11, kt_m12, kt_m13, kt_m14, kt_m100] at c12); show 0 ≤ a.toInt ∧ a.toInt ≤ 255; (try simp only [kt_0, kt_1, kt_2, kt_3, kt_4, kt_5, kt_6, kt_7, kt_8, kt_9, kt_10, kt_11, kt_12, kt_13, kt_15, kt_16, kt_19, kt_20, kt_24, kt_25, kt_31, kt_32, kt_40, kt_50, kt_60, kt_63, kt_100, kt_120, kt_255, kt_300, kt_999999, kt_1000000, kt_m1, kt_m2, kt_m3, kt_m4, kt_m6, kt_m7, kt_m11, kt_m12, kt_m13, kt_m14, kt_m100]); omega), (by (try simp only [jlt, jle, jeq, kt_0, kt_1, kt_2, kt_3, kt_4, kt_5, kt_6, kt_7, kt_8, kt_9, kt_10, kt_11, kt_12, kt_13, kt_15, kt_16, kt_19, kt_20, kt_24, kt_25, kt_31, kt_32, kt_40, kt_50, kt_60, kt_63, kt_100, kt_120, kt_255, kt_300, kt_999999, kt_1000000, kt_m1, kt_m2, kt_m3, kt_m4, kt_m6, kt_m7, kt_m11, kt_m12, kt_m13, kt_m14, kt_m100] at c2); (try simp only [jlt, jle, jeq, kt_0, kt_1, kt_2, kt_3, kt_4, kt_5, kt_6, kt_7, kt_8, kt_9, kt_10, kt_11, kt_12, kt_13, kt_15, kt_16, kt_19, kt_20, kt_24, kt_25, kt_31, kt_32, kt_40, kt_50, kt_60, kt_63, kt_100, kt_120, kt_255, kt_300, kt_999999, kt_1000000, kt_m1, kt_m2, kt_m3, kt_m4, kt_m6, kt_m7, kt_m11, kt_m12, kt_m13, kt_m14, kt_m100] at c4); (try simp only [jlt, jle, jeq, kt_0, kt_1, kt_2, kt_3, kt_4, kt_5, kt_6, kt_7, kt_8, kt_9, kt_10, kt_11, kt_12, kt_13, kt_15, kt_16, kt_19, kt_20, kt_24, kt_25, kt_31, kt_32, kt_40, kt_50, kt_60, kt_63, kt_100, kt_120, kt_255, kt_300, kt_999999, kt_1000000, kt_m1, kt_m2, kt_m3, kt_m4, kt_m6, kt_m7, kt_m11, kt_m12, kt_m13, kt_m14, kt_m100] at c6); (try simp only [jlt, jle, jeq, kt_0, kt_1, kt_2, kt_3, kt_4, kt_5, kt_6, kt_7, kt_8, kt_9, kt_10, kt_11, kt_12, kt_13, kt_15, kt_16, kt_19, kt_20, kt_24, kt_25, kt_31, kt_32, kt_40, kt_50, kt_60, kt_63, kt_100, kt_120, kt_255, kt_300, kt_999999, kt_1000000, kt_m1, kt_m2, kt_m3, kt_m4, kt_m6, kt_m7, kt_m11, kt_m12, kt_m13, kt_m14, kt_m100] at c8); (try simp only [jlt, jle, jeq, kt_0, kt_1, kt_2, kt_3, kt_4, kt_5, kt_6, kt_7, kt_8, kt_9, kt_10, kt_11, kt_12, kt_13, kt_15, kt_16, kt_19, kt_20, kt_24, kt_25, kt_31, kt_32, kt_40, kt_50, kt_60, kt_63, kt_100, kt_120, kt_255, kt_300, kt_999999, kt_1000000, kt_m1, kt_m2, kt_m3, kt_m4, kt_m6, kt_m7, kt_m11, kt_m12, kt_m13, kt_m14, kt_m100] at c10); (try simp only [jlt, jle, jeq, kt_0, kt_1, kt_2, kt_3, kt_4, kt_5, kt_6, kt_7, kt_8, kt_9, kt_10, kt_11, kt_12, kt_13, kt_15, kt_16, kt_19, kt_20, kt_24, kt_25, kt_31, kt_32, kt_40, kt_50, kt_60, kt_63, kt_100, kt_120, kt_255, kt_300, kt_999999, kt_1000000, kt_m1, kt_m2, kt_m3, kt_m4, kt_m6, kt_m7, kt_m11, kt_m12, kt_m13, kt_m14, kt_m100] at c12); show 0 ≤ b.toInt ∧ b.toInt ≤ 255; (try simp only [kt_0, kt_1, kt_2, kt_3, kt_4, kt_5, kt_6, kt_7, kt_8, kt_9, kt_10, kt_11, kt_12, kt_13, kt_15, kt_16, kt_19, kt_20, kt_24, kt_25, kt_31, kt_32, kt_40, kt_50, kt_60, kt_63, kt_100, kt_120, kt_255, kt_300, kt_999999, kt_1000000, kt_m1, kt_m2, kt_m3, kt_m4, kt_m6, kt_m7, kt_m11, kt_m12, kt_m13, kt_m14, kt_m100]); omega), (by (try simp only [jlt, jle, jeq, kt_0, kt_1, kt_2, kt_3, kt_4, kt_5, kt_6, kt_7, kt_8, kt_9, kt_10, kt_11, kt_12, kt_13, kt_15, kt_16, kt_19, kt_20, kt_24, kt_25, kt_31, kt_32, kt_40, kt_50, kt_60, kt_63, kt_100, kt_120, kt_255, kt_300, kt_999999, kt_1000000, kt_m1, kt_m2, kt_m3, kt_m4, kt_m6, kt_m7, kt_m11, kt_m12, kt_m13, kt_m14, kt_m100] at c2); (try simp only [jlt, jle, jeq, kt_0, kt_1, kt_2, kt_3, kt_4, kt_5, kt_6, kt_7, kt_8, kt_9, kt_10, kt_11, kt_12, kt_13, kt_15, kt_16, kt_19, kt_20, kt_24, kt_25, kt_31, kt_32, kt_40, kt_50, kt_60, kt_63, kt_100, kt_120, kt_255, kt_300, kt_999999, kt_1000000, kt_m1, kt_m2, kt_m3, kt_m4, kt_m6, kt_m7, kt_m11, kt_m12, kt_m13, kt_m14, kt_m100] at c4); (try simp only [jlt, jle, jeq, kt_0, kt_1, kt_2, kt_3, kt_4, kt_5, kt_6, kt_7, kt_8, kt_9, kt_10, kt_11, kt_12, kt_13, kt_15, kt_16, kt_19, kt_20, kt_24, kt_25, kt_31, kt_32, kt_40, kt_50, kt_60, kt_63, kt_100, kt_120, kt_255, kt_300, kt_999999, kt_1000000, kt_m1, kt_m2, kt_m3, kt_m4, kt_m6, kt_m7, kt_m11, kt_m12, kt_m13, kt_m14, kt_m100] at c6); (try simp only [jlt, jle, jeq, kt_0, kt_1, kt_2, kt_3, kt_4, kt_5, kt_6, kt_7, kt_8, kt_9, kt_10, kt_11, kt_12, kt_13, kt_15, kt_16, kt_19, kt_20, kt_24, kt_25, kt_31, kt_32, kt_40, kt_50, kt_60, kt_63, kt_100, kt_120, kt_255, kt_300, kt_999999, kt_1000000, kt_m1, kt_m2, kt_m3, kt_m4, kt_m6, kt_m7, kt_m11, kt_m12, kt_m13, kt_m14, kt_m100] at c8); (try simp only [jlt, jle, jeq, kt_0, kt_1, kt_2, kt_3, kt_4, kt_5, kt_6, kt_7, kt_8, kt_9, kt_10, kt_11, kt_12, kt_13, kt_15, kt_16, kt_19, kt_20, kt_24, kt_25, kt_31, kt_32, kt_40, kt_50, kt_60, kt_63, kt_100, kt_120, kt_255, kt_300, kt_999999, kt_1000000, kt_m1, kt_m2, kt_m3, kt_m4, kt_m6, kt_m7, kt_m11, kt_m12, kt_m13, kt_m14, kt_m100] at c10); (try simp only [jlt, jle, jeq, kt_0, kt_1, kt_2, kt_3, kt_4, kt_5, kt_6, kt_7, kt_8, kt_9, kt_10, kt_11, kt_12, kt_13, kt_15, kt_16, kt_19, kt_20, kt_24, kt_25, kt_31, kt_32, kt_40, kt_50, kt_60, kt_63, kt_100, kt_120, kt_255, kt_300, kt_999999, kt_1000000, kt_m1, kt_m2, kt_m3, kt_m4, kt_m6, kt_m7, kt_m11, kt_m12, kt_m13, kt_m14, kt_m100] at c12); show 0 ≤ c.toInt ∧ c.toInt ≤ 255; (try simp only [kt_0, kt_1, kt_2, kt_3, kt_4, kt_5, kt_6, kt_7, kt_8, kt_9, kt_10, kt_11, kt_12, kt_13, kt_15, kt_16, kt_19, kt_20, kt_24, kt_25, kt_31, kt_32, kt_40, kt_50, kt_60, kt_63, kt_100, kt_120, kt_255, kt_300, kt_999999, kt_1000000, kt_m1, kt_m2, kt_m3, kt_m4, kt_m6, kt_m7, kt_m11, kt_m12, kt_m13, kt_m14, kt_m100]); omega), (by (try simp only [jlt, jle, jeq, kt_0, kt_1, kt_2, kt_3, kt_4, kt_5, kt_6, kt_7, kt_8, kt_9, kt_10, kt_11, kt_12, kt_13, kt_15, kt_16, kt_19, kt_20, kt_24, kt_25, kt_31, kt_32, kt_40, kt_50, kt_60, kt_63, kt_100, kt_120, kt_255, kt_300, kt_999999, kt_1000000, kt_m1, kt_m2, kt_m3, kt_m4, kt_m6, kt_m7, kt_m11, kt_m12, kt_m13, kt_m14, kt_m100] at c2); (try simp only [jlt, jle, jeq, kt_0, kt_1, kt_2, kt_3, kt_4, kt_5, kt_6, kt_7, kt_8, kt_9, kt_10, kt_11, kt_12, kt_13, kt_15, kt_16, kt_19, kt_20, kt_24, kt_25, kt_31, kt_32, kt_40, kt_50, kt_60, kt_63, kt_100, kt_120, kt_255, kt_300, kt_999999, kt_1000000, kt_m1, kt_m2, kt_m3, kt_m4, kt_m6, kt_m7, kt_m11, kt_m12, kt_m13, kt_m14, kt_m100] at c4); (try simp only [jlt, jle, jeq, kt_0, kt_1, kt_2, kt_3, kt_4, kt_5, kt_6, kt_7, kt_8, kt_9, kt_10, kt_11, kt_12, kt_13, kt_15, kt_16, kt_19, kt_20, kt_24, kt_25, kt_31, kt_32, kt_40, kt_50, kt_60, kt_63, kt_100, kt_120, kt_255, kt_300, kt_999999, kt_1000000, kt_m1, kt_m2, kt_m3, kt_m4, kt_m6, kt_m7, kt_m11, kt_m12, kt_m13, kt_m14, kt_m100] at c6); (try simp only [jlt, jle, jeq, kt_0, kt_1, kt_2, kt_3, kt_4, kt_5, kt_6, kt_7, kt_8, kt_9, kt_10, kt_11, kt_12, kt_13, kt_15, kt_16, kt_19, kt_20, kt_24, kt_25, kt_31, kt_32, kt_40, kt_50, kt_60, kt_63, kt_100, kt_120, kt_255, kt_300, kt_999999, kt_1000000, kt_m1, kt_m2, kt_m3, kt_m4, kt_m6, kt_m7, kt_m11, kt_m12, kt_m13, kt_m14, kt_m100] at c8); (try simp only [jlt, jle, jeq, kt_0, kt_1, kt_2, kt_3, kt_4, kt_5, kt_6, kt_7, kt_8, kt_9, kt_10, kt_11, kt_12, kt_13, kt_15, kt_16, kt_19, kt_20, kt_24, kt_25, kt_31, kt_32, kt_40, kt_50, kt_60, kt_63, kt_100, kt_120, kt_255, kt_300, kt_999999, kt_1000000, kt_m1, kt_m2, kt_m3, kt_m4, kt_m6, kt_m7, kt_m11, kt_m12, kt_m13, kt_m14, kt_m100] at c10); (try simp only [jlt, jle, jeq, kt_0, kt_1, kt_2, kt_3, kt_4, kt_5, kt_6, kt_7, kt_8, kt_9, kt_10, kt_11, kt_12, kt_13, kt_15, kt_16, kt_19, kt_20, kt_24, kt_25, kt_31, kt_32, kt_40, kt_50, kt_60, kt_63, kt_100, kt_120, kt_255, kt_300, kt_999999, kt_1000000, kt_m1, kt_m2, kt_m3, kt_m4, kt_m6, kt_m7, kt_m11, kt_m12, kt_m13, kt_m14, kt_m100] at c12); show 0 ≤ d.toInt ∧ d.toInt ≤ 255; (try simp only [kt_0, kt_1, kt_2, kt_3, kt_4, kt_5, kt_6, kt_7, kt_8, kt_9, kt_10, kt_11, kt_12, kt_13, kt_15, kt_16, kt_19, kt_20, kt_24, kt_25, kt_31, kt_32, kt_40, kt_50, kt_60, kt_63, kt_100, kt_120, kt_255, kt_300, kt_999999, kt_1000000, kt_m1, kt_m2, kt_m3, kt_m4, kt_m6, kt_m7, kt_m11, kt_m12, kt_m13, kt_m14, kt_m100]); omega), (by (try simp only [jlt, jle, jeq, kt_0, kt_1, kt_2, kt_3, kt_4, kt_5, kt_6, kt_7, kt_8, kt_9, kt_10, kt_11, kt_12, kt_13, kt_15, kt_16, kt_19, kt_20, kt_24, kt_25, kt_31, kt_32, kt_40, kt_50, kt_60, kt_63, kt_100, kt_120, kt_255, kt_300, kt_999999, kt_1000000, kt_m1, kt_m2, kt_m3, kt_m4, kt_m6, kt_m7, kt_m11, kt_m12, kt_m13, kt_m14, kt_m100] at c2); (try simp only [jlt, jle, jeq, kt_0, kt_1, kt_2, kt_3, kt_4, kt_5, kt_6, kt_7, kt_8, kt_9, kt_10, kt_11, kt_12, kt_13, kt_15, kt_16, kt_19, kt_20, kt_24, kt_25, kt_31, kt_32, kt_40, kt_50, kt_60, kt_63, kt_100, kt_120, kt_255, kt_300, kt_999999, kt_1000000, kt_m1, kt_m2, kt_m3, kt_m4, kt_m6, kt_m7, kt_m11, kt_m12, kt_m13, kt_m14, kt_m100] at c4); (try simp only [jlt, jle, jeq, kt_0, kt_1, kt_2, kt_3, kt_4, kt_5, kt_6, kt_7, kt_8, kt_9, kt_10, kt_11, kt_12, kt_13, kt_15, kt_16, kt_19, kt_20, kt_24, kt_25, kt_31, kt_32, kt_40, kt_50, kt_60, kt_63, kt_100, kt_120, kt_255, kt_300, kt_999999, kt_1000000, kt_m1, kt_m2, kt_m3, kt_m4, kt_m6, kt_m7, kt_m11, kt_m12, kt_m13, kt_m14, kt_m100] at c6); (try simp only [jlt, jle, jeq, kt_0, kt_1, kt_2, kt_3, kt_4, kt_5, kt_6, kt_7, kt_8, kt_9, kt_10, kt_11, kt_12, kt_13, kt_15, kt_16, kt_19, kt_20, kt_24, kt_25, kt_31, kt_32, kt_40, kt_50, kt_60, kt_63, kt_100, kt_120, kt_255, kt_300, kt_999999, kt_1000000, kt_m1, kt_m2, kt_m3, kt_m4, kt_m6, kt_m7, kt_m11, kt_m12, kt_m13, kt_m14, kt_m100] at c8); (try simp only [jlt, jle, jeq, kt_0, kt_1, kt_2, kt_3, kt_4, kt_5, kt_6, kt_7, kt_8, kt_9, kt_10, kt_11, kt_12, kt_13, kt_15, kt_16, kt_19, kt_20, kt_24, kt_25, kt_31, kt_32, kt_40, kt_50, kt_60, kt_63, kt_100, kt_120, kt_255, kt_300, kt_999999, kt_1000000, kt_m1, kt_m2, kt_m3, kt_m4, kt_m6, kt_m7, kt_m11, kt_m12, kt_m13, kt_m14, kt_m100] at c10); (try simp only [jlt, jle, jeq, kt_0, kt_1, kt_2, kt_3, kt_4, kt_5, kt_6, kt_7, kt_8, kt_9, kt_10, kt_11, kt_12, kt_13, kt_15, kt_16, kt_19, kt_20, kt_24, kt_25, kt_31, kt_32, kt_40, kt_50, kt_60, kt_63, kt_100, kt_120, kt_255, kt_300, kt_999999, kt_1000000, kt_m1, kt_m2, kt_m3, kt_m4, kt_m6, kt_m7, kt_m11, kt_m12, kt_m13, kt_m14, kt_m100] at c12); show 0 ≤ e.toInt ∧ e.toInt ≤ 255; (try simp only [kt_0, kt_1, kt_2, kt_3, kt_4, kt_5, kt_6, kt_7, kt_8, kt_9, kt_10, kt_11, kt_12, kt_13, kt_15, kt_16, kt_19, kt_20, kt_24, kt_25, kt_31, kt_32, kt_40, kt_50, kt_60, kt_63, kt_100, kt_120, kt_255, kt_300, kt_999999, kt_1000000, kt_m1, kt_m2, kt_m3, kt_m4, kt_m6, kt_m7, kt_m11, kt_m12, kt_m13, kt_m14, kt_m100]); omega)⟩
              have hres : some (Value.int n) = some (Value.int (an_feed n a b c d e)) := jip hal
              clear hal c2 c4 c6 c8 c10 c12
              rcases hn with rfl | rfl | rfl | rfl | rfl
              · show JJ g w 50 [(0, .ref x), (1, .int 1), (2, .int a), (3, .int b), (4, .int c), (5, .int d), (6, .int e)] []
                refine j_blk 51 [(0, .ref x), (1, .int 1), (2, .int a), (3, .int b), (4, .int c), (5, .int d), (6, .int e)] [.ref x] C k_c_Mo_feed_50_1 rfl ?_
                refine j_get C d_c_Mo_feed_51 fg_Mo_116 hx h1 ?_
                refine j_blk 58 [(0, .ref x), (1, .int 1), (2, .int a), (3, .int b), (4, .int c), (5, .int d), (6, .int e)] [.int 120, .int 1] C k_c_Mo_feed_54_3 rfl ?_
                refine j_icmp_le (tgt := 64) C d_c_Mo_feed_58 (by decide) (fun c13 => ?_) (fun c13 => absurd (by decide) c13)
                refine j_blk 70 [(7, .int 0), (0, .ref x), (1, .int 1), (2, .int a), (3, .int b), (4, .int c), (5, .int d), (6, .int e)] [.int 1, .int 0] C k_c_Mo_feed_64_4 rfl ?_
                refine j_icmp_ge (tgt := 134) C d_c_Mo_feed_70 (by decide) (fun c14 => absurd c14 (by decide)) (fun c14 => ?_)
                refine j_blk 74 [(7, .int 0), (0, .ref x), (1, .int 1), (2, .int a), (3, .int b), (4, .int c), (5, .int d), (6, .int e)] [.ref x] C k_c_Mo_feed_73_1 rfl ?_
                refine j_get C d_c_Mo_feed_74 fg_Mo_76 hx h0 ?_
                refine j_blk 78 [(7, .int 0), (0, .ref x), (1, .int 1), (2, .int a), (3, .int b), (4, .int c), (5, .int d), (6, .int e)] [.ref x, .ref tp] C k_c_Mo_feed_77_1 rfl ?_
                refine j_get C d_c_Mo_feed_78 fg_Mo_116 hx h1 ?_
                refine j_blk 86 [(7, .int 0), (0, .ref x), (1, .int 1), (2, .int a), (3, .int b), (4, .int c), (5, .int d), (6, .int e)] [.int 0, .int 0, .ref tp] C k_c_Mo_feed_81_3 rfl ?_
                refine j_if_ne (tgt := 93) C d_c_Mo_feed_86 (by decide) (fun c15 => absurd (by decide) c15) (fun c15 => ?_)
                refine j_blk 127 [(7, .int 0), (0, .ref x), (1, .int 1), (2, .int a), (3, .int b), (4, .int c), (5, .int d), (6, .int e)] [.int a, .int 0, .ref tp] C k_c_Mo_feed_89_2 rfl ?_
                refine j_iast C d_c_Mo_feed_127 ht (jin (by decide) (by decide)) ?_
                refine jnv (fun w_7 ew_7 => ?_)
                have m_tp_w_7 : w_7.1 tp = some (aI D 120 (upd (fun _ => 0) 0 a)) := jus ew_7
                have hk_w_7 := jk0 ew_7 hk
                have fr_w_7 := jfrW ew_7 fr0 (fun b e hb _ => Nat.ne_of_gt (Nat.lt_of_lt_of_le tq hb))
                refine j_blk 67 [(7, .int 1), (0, .ref x), (1, .int 1), (2, .int a), (3, .int b), (4, .int c), (5, .int d), (6, .int e)] [] C k_c_Mo_feed_128_2 rfl ?_
                refine j_blk 70 [(7, .int 1), (0, .ref x), (1, .int 1), (2, .int a), (3, .int b), (4, .int c), (5, .int d), (6, .int e)] [.int 1, .int 1] C k_c_Mo_feed_67_2 rfl ?_
                refine j_icmp_ge (tgt := 134) C d_c_Mo_feed_70 (by decide) (fun c16 => ?_) (fun c16 => absurd (by decide) c16)
                refine j_blk 136 [(7, .int 1), (0, .ref x), (1, .int 1), (2, .int a), (3, .int b), (4, .int c), (5, .int d), (6, .int e)] [.ref x, .ref x] C k_c_Mo_feed_134_2 rfl ?_
                have m_x_w_7 := jun ew_7 hx (jneOA hx ht)
                refine j_get C d_c_Mo_feed_136 fg_Mo_116 m_x_w_7 h1 ?_
                refine j_blk 141 [(7, .int 1), (0, .ref x), (1, .int 1), (2, .int a), (3, .int b), (4, .int c), (5, .int d), (6, .int e)] [.int 1, .ref x] C k_c_Mo_feed_139_2 rfl ?_
                refine j_put C d_c_Mo_feed_141 fp_Mo_116 m_x_w_7 rfl rfl ?_
                refine jnv (fun w_8 ew_8 => ?_)
                have m_x_w_8 : w_8.1 x = some (.inr (10, (updV V 22 (.int 1)))) := jus ew_8
                have hk_w_8 := jk0 ew_8 hk_w_7
                have fr_w_8 := jfrW ew_8 fr_w_7 (fun b e hb _ => Nat.ne_of_gt (Nat.lt_of_lt_of_le xq hb))
                refine j_blk 145 [(7, .int 1), (0, .ref x), (1, .int 1), (2, .int a), (3, .int b), (4, .int c), (5, .int d), (6, .int e)] [.ref x] C k_c_Mo_feed_144_1 rfl ?_
                refine j_get C d_c_Mo_feed_145 fg_Mo_116 m_x_w_8 rfl ?_
                exact j_iret C Rm E d_c_Mo_feed_148 ⟨hres, fr_w_8⟩ (jbnd hk_w_8.1 rfl) (jbnd hk_w_8.2 rfl)
              · show JJ g w 50 [(0, .ref x), (1, .int 2), (2, .int a), (3, .int b), (4, .int c), (5, .int d), (6, .int e)] []
                refine j_blk 51 [(0, .ref x), (1, .int 2), (2, .int a), (3, .int b), (4, .int c), (5, .int d), (6, .int e)] [.ref x] C k_c_Mo_feed_50_1 rfl ?_
                refine j_get C d_c_Mo_feed_51 fg_Mo_116 hx h1 ?_
                refine j_blk 58 [(0, .ref x), (1, .int 2), (2, .int a), (3, .int b), (4, .int c), (5, .int d), (6, .int e)] [.int 120, .int 2] C k_c_Mo_feed_54_3 rfl ?_
                refine j_icmp_le (tgt := 64) C d_c_Mo_feed_58 (by decide) (fun c17 => ?_) (fun c17 => absurd (by decide) c17)
                refine j_blk 70 [(7, .int 0), (0, .ref x), (1, .int 2), (2, .int a), (3, .int b), (4, .int c), (5, .int d), (6, .int e)] [.int 2, .int 0] C k_c_Mo_feed_64_4 rfl ?_
                refine j_icmp_ge (tgt := 134) C d_c_Mo_feed_70 (by decide) (fun c18 => absurd c18 (by decide)) (fun c18 => ?_)
                refine j_blk 74 [(7, .int 0), (0, .ref x), (1, .int 2), (2, .int a), (3, .int b), (4, .int c), (5, .int d), (6, .int e)] [.ref x] C k_c_Mo_feed_73_1 rfl ?_
                refine j_get C d_c_Mo_feed_74 fg_Mo_76 hx h0 ?_
                refine j_blk 78 [(7, .int 0), (0, .ref x), (1, .int 2), (2, .int a), (3, .int b), (4, .int c), (5, .int d), (6, .int e)] [.ref x, .ref tp] C k_c_Mo_feed_77_1 rfl ?_
                refine j_get C d_c_Mo_feed_78 fg_Mo_116 hx h1 ?_
                refine j_blk 86 [(7, .int 0), (0, .ref x), (1, .int 2), (2, .int a), (3, .int b), (4, .int c), (5, .int d), (6, .int e)] [.int 0, .int 0, .ref tp] C k_c_Mo_feed_81_3 rfl ?_
                refine j_if_ne (tgt := 93) C d_c_Mo_feed_86 (by decide) (fun c19 => absurd (by decide) c19) (fun c19 => ?_)
                refine j_blk 127 [(7, .int 0), (0, .ref x), (1, .int 2), (2, .int a), (3, .int b), (4, .int c), (5, .int d), (6, .int e)] [.int a, .int 0, .ref tp] C k_c_Mo_feed_89_2 rfl ?_
                refine j_iast C d_c_Mo_feed_127 ht (jin (by decide) (by decide)) ?_
                refine jnv (fun w_9 ew_9 => ?_)
                have m_tp_w_9 : w_9.1 tp = some (aI D 120 (upd (fun _ => 0) 0 a)) := jus ew_9
                have hk_w_9 := jk0 ew_9 hk
                have fr_w_9 := jfrW ew_9 fr0 (fun b e hb _ => Nat.ne_of_gt (Nat.lt_of_lt_of_le tq hb))
                refine j_blk 67 [(7, .int 1), (0, .ref x), (1, .int 2), (2, .int a), (3, .int b), (4, .int c), (5, .int d), (6, .int e)] [] C k_c_Mo_feed_128_2 rfl ?_
                refine j_blk 70 [(7, .int 1), (0, .ref x), (1, .int 2), (2, .int a), (3, .int b), (4, .int c), (5, .int d), (6, .int e)] [.int 2, .int 1] C k_c_Mo_feed_67_2 rfl ?_
                refine j_icmp_ge (tgt := 134) C d_c_Mo_feed_70 (by decide) (fun c20 => absurd c20 (by decide)) (fun c20 => ?_)
                refine j_blk 74 [(7, .int 1), (0, .ref x), (1, .int 2), (2, .int a), (3, .int b), (4, .int c), (5, .int d), (6, .int e)] [.ref x] C k_c_Mo_feed_73_1 rfl ?_
                have m_x_w_9 := jun ew_9 hx (jneOA hx ht)
                refine j_get C d_c_Mo_feed_74 fg_Mo_76 m_x_w_9 h0 ?_
                refine j_blk 78 [(7, .int 1), (0, .ref x), (1, .int 2), (2, .int a), (3, .int b), (4, .int c), (5, .int d), (6, .int e)] [.ref x, .ref tp] C k_c_Mo_feed_77_1 rfl ?_
                refine j_get C d_c_Mo_feed_78 fg_Mo_116 m_x_w_9 h1 ?_
                refine j_blk 86 [(7, .int 1), (0, .ref x), (1, .int 2), (2, .int a), (3, .int b), (4, .int c), (5, .int d), (6, .int e)] [.int 1, .int 1, .ref tp] C k_c_Mo_feed_81_3 rfl ?_
                refine j_if_ne (tgt := 93) C d_c_Mo_feed_86 (by decide) (fun c21 => ?_) (fun c21 => absurd c21 (by decide))
                refine j_blk 96 [(7, .int 1), (0, .ref x), (1, .int 2), (2, .int a), (3, .int b), (4, .int c), (5, .int d), (6, .int e)] [.int 1, .int 1, .int 1, .ref tp] C k_c_Mo_feed_93_2 rfl ?_
                refine j_icmp_ne (tgt := 103) C d_c_Mo_feed_96 (by decide) (fun c22 => absurd (by decide) c22) (fun c22 => ?_)
                refine j_blk 127 [(7, .int 1), (0, .ref x), (1, .int 2), (2, .int a), (3, .int b), (4, .int c), (5, .int d), (6, .int e)] [.int b, .int 1, .ref tp] C k_c_Mo_feed_99_2 rfl ?_
                refine j_iast C d_c_Mo_feed_127 m_tp_w_9 (jin (by decide) (by decide)) ?_
                refine jnv (fun w_10 ew_10 => ?_)
                have m_tp_w_10 : w_10.1 tp = some (aI D 120 (upd (upd (fun _ => 0) 0 a) 1 b)) := jus ew_10
                have hk_w_10 := jk0 ew_10 hk_w_9
                have fr_w_10 := jfrW ew_10 fr_w_9 (fun b e hb _ => Nat.ne_of_gt (Nat.lt_of_lt_of_le tq hb))
                refine j_blk 67 [(7, .int 2), (0, .ref x), (1, .int 2), (2, .int a), (3, .int b), (4, .int c), (5, .int d), (6, .int e)] [] C k_c_Mo_feed_128_2 rfl ?_
                refine j_blk 70 [(7, .int 2), (0, .ref x), (1, .int 2), (2, .int a), (3, .int b), (4, .int c), (5, .int d), (6, .int e)] [.int 2, .int 2] C k_c_Mo_feed_67_2 rfl ?_
                refine j_icmp_ge (tgt := 134) C d_c_Mo_feed_70 (by decide) (fun c23 => ?_) (fun c23 => absurd (by decide) c23)
                refine j_blk 136 [(7, .int 2), (0, .ref x), (1, .int 2), (2, .int a), (3, .int b), (4, .int c), (5, .int d), (6, .int e)] [.ref x, .ref x] C k_c_Mo_feed_134_2 rfl ?_
                have m_x_w_10 := jun ew_10 m_x_w_9 (jneOA m_x_w_9 m_tp_w_9)
                refine j_get C d_c_Mo_feed_136 fg_Mo_116 m_x_w_10 h1 ?_
                refine j_blk 141 [(7, .int 2), (0, .ref x), (1, .int 2), (2, .int a), (3, .int b), (4, .int c), (5, .int d), (6, .int e)] [.int 2, .ref x] C k_c_Mo_feed_139_2 rfl ?_
                refine j_put C d_c_Mo_feed_141 fp_Mo_116 m_x_w_10 rfl rfl ?_
                refine jnv (fun w_11 ew_11 => ?_)
                have m_x_w_11 : w_11.1 x = some (.inr (10, (updV V 22 (.int 2)))) := jus ew_11
                have hk_w_11 := jk0 ew_11 hk_w_10
                have fr_w_11 := jfrW ew_11 fr_w_10 (fun b e hb _ => Nat.ne_of_gt (Nat.lt_of_lt_of_le xq hb))
                refine j_blk 145 [(7, .int 2), (0, .ref x), (1, .int 2), (2, .int a), (3, .int b), (4, .int c), (5, .int d), (6, .int e)] [.ref x] C k_c_Mo_feed_144_1 rfl ?_
                refine j_get C d_c_Mo_feed_145 fg_Mo_116 m_x_w_11 rfl ?_
                exact j_iret C Rm E d_c_Mo_feed_148 ⟨hres, fr_w_11⟩ (jbnd hk_w_11.1 rfl) (jbnd hk_w_11.2 rfl)
              · show JJ g w 50 [(0, .ref x), (1, .int 3), (2, .int a), (3, .int b), (4, .int c), (5, .int d), (6, .int e)] []
                refine j_blk 51 [(0, .ref x), (1, .int 3), (2, .int a), (3, .int b), (4, .int c), (5, .int d), (6, .int e)] [.ref x] C k_c_Mo_feed_50_1 rfl ?_
                refine j_get C d_c_Mo_feed_51 fg_Mo_116 hx h1 ?_
                refine j_blk 58 [(0, .ref x), (1, .int 3), (2, .int a), (3, .int b), (4, .int c), (5, .int d), (6, .int e)] [.int 120, .int 3] C k_c_Mo_feed_54_3 rfl ?_
                refine j_icmp_le (tgt := 64) C d_c_Mo_feed_58 (by decide) (fun c24 => ?_) (fun c24 => absurd (by decide) c24)
                refine j_blk 70 [(7, .int 0), (0, .ref x), (1, .int 3), (2, .int a), (3, .int b), (4, .int c), (5, .int d), (6, .int e)] [.int 3, .int 0] C k_c_Mo_feed_64_4 rfl ?_
                refine j_icmp_ge (tgt := 134) C d_c_Mo_feed_70 (by decide) (fun c25 => absurd c25 (by decide)) (fun c25 => ?_)
                refine j_blk 74 [(7, .int 0), (0, .ref x), (1, .int 3), (2, .int a), (3, .int b), (4, .int c), (5, .int d), (6, .int e)] [.ref x] C k_c_Mo_feed_73_1 rfl ?_
                refine j_get C d_c_Mo_feed_74 fg_Mo_76 hx h0 ?_
                refine j_blk 78 [(7, .int 0), (0, .ref x), (1, .int 3), (2, .int a), (3, .int b), (4, .int c), (5, .int d), (6, .int e)] [.ref x, .ref tp] C k_c_Mo_feed_77_1 rfl ?_
                refine j_get C d_c_Mo_feed_78 fg_Mo_116 hx h1 ?_
                refine j_blk 86 [(7, .int 0), (0, .ref x), (1, .int 3), (2, .int a), (3, .int b), (4, .int c), (5, .int d), (6, .int e)] [.int 0, .int 0, .ref tp] C k_c_Mo_feed_81_3 rfl ?_
                refine j_if_ne (tgt := 93) C d_c_Mo_feed_86 (by decide) (fun c26 => absurd (by decide) c26) (fun c26 => ?_)
                refine j_blk 127 [(7, .int 0), (0, .ref x), (1, .int 3), (2, .int a), (3, .int b), (4, .int c), (5, .int d), (6, .int e)] [.int a, .int 0, .ref tp] C k_c_Mo_feed_89_2 rfl ?_
                refine j_iast C d_c_Mo_feed_127 ht (jin (by decide) (by decide)) ?_
                refine jnv (fun w_12 ew_12 => ?_)
                have m_tp_w_12 : w_12.1 tp = some (aI D 120 (upd (fun _ => 0) 0 a)) := jus ew_12
                have hk_w_12 := jk0 ew_12 hk
                have fr_w_12 := jfrW ew_12 fr0 (fun b e hb _ => Nat.ne_of_gt (Nat.lt_of_lt_of_le tq hb))
                refine j_blk 67 [(7, .int 1), (0, .ref x), (1, .int 3), (2, .int a), (3, .int b), (4, .int c), (5, .int d), (6, .int e)] [] C k_c_Mo_feed_128_2 rfl ?_
                refine j_blk 70 [(7, .int 1), (0, .ref x), (1, .int 3), (2, .int a), (3, .int b), (4, .int c), (5, .int d), (6, .int e)] [.int 3, .int 1] C k_c_Mo_feed_67_2 rfl ?_
                refine j_icmp_ge (tgt := 134) C d_c_Mo_feed_70 (by decide) (fun c27 => absurd c27 (by decide)) (fun c27 => ?_)
                refine j_blk 74 [(7, .int 1), (0, .ref x), (1, .int 3), (2, .int a), (3, .int b), (4, .int c), (5, .int d), (6, .int e)] [.ref x] C k_c_Mo_feed_73_1 rfl ?_
                have m_x_w_12 := jun ew_12 hx (jneOA hx ht)
                refine j_get C d_c_Mo_feed_74 fg_Mo_76 m_x_w_12 h0 ?_
                refine j_blk 78 [(7, .int 1), (0, .ref x), (1, .int 3), (2, .int a), (3, .int b), (4, .int c), (5, .int d), (6, .int e)] [.ref x, .ref tp] C k_c_Mo_feed_77_1 rfl ?_
                refine j_get C d_c_Mo_feed_78 fg_Mo_116 m_x_w_12 h1 ?_
                refine j_blk 86 [(7, .int 1), (0, .ref x), (1, .int 3), (2, .int a), (3, .int b), (4, .int c), (5, .int d), (6, .int e)] [.int 1, .int 1, .ref tp] C k_c_Mo_feed_81_3 rfl ?_
                refine j_if_ne (tgt := 93) C d_c_Mo_feed_86 (by decide) (fun c28 => ?_) (fun c28 => absurd c28 (by decide))
                refine j_blk 96 [(7, .int 1), (0, .ref x), (1, .int 3), (2, .int a), (3, .int b), (4, .int c), (5, .int d), (6, .int e)] [.int 1, .int 1, .int 1, .ref tp] C k_c_Mo_feed_93_2 rfl ?_
                refine j_icmp_ne (tgt := 103) C d_c_Mo_feed_96 (by decide) (fun c29 => absurd (by decide) c29) (fun c29 => ?_)
                refine j_blk 127 [(7, .int 1), (0, .ref x), (1, .int 3), (2, .int a), (3, .int b), (4, .int c), (5, .int d), (6, .int e)] [.int b, .int 1, .ref tp] C k_c_Mo_feed_99_2 rfl ?_
                refine j_iast C d_c_Mo_feed_127 m_tp_w_12 (jin (by decide) (by decide)) ?_
                refine jnv (fun w_13 ew_13 => ?_)
                have m_tp_w_13 : w_13.1 tp = some (aI D 120 (upd (upd (fun _ => 0) 0 a) 1 b)) := jus ew_13
                have hk_w_13 := jk0 ew_13 hk_w_12
                have fr_w_13 := jfrW ew_13 fr_w_12 (fun b e hb _ => Nat.ne_of_gt (Nat.lt_of_lt_of_le tq hb))
                refine j_blk 67 [(7, .int 2), (0, .ref x), (1, .int 3), (2, .int a), (3, .int b), (4, .int c), (5, .int d), (6, .int e)] [] C k_c_Mo_feed_128_2 rfl ?_
                refine j_blk 70 [(7, .int 2), (0, .ref x), (1, .int 3), (2, .int a), (3, .int b), (4, .int c), (5, .int d), (6, .int e)] [.int 3, .int 2] C k_c_Mo_feed_67_2 rfl ?_
                refine j_icmp_ge (tgt := 134) C d_c_Mo_feed_70 (by decide) (fun c30 => absurd c30 (by decide)) (fun c30 => ?_)
                refine j_blk 74 [(7, .int 2), (0, .ref x), (1, .int 3), (2, .int a), (3, .int b), (4, .int c), (5, .int d), (6, .int e)] [.ref x] C k_c_Mo_feed_73_1 rfl ?_
                have m_x_w_13 := jun ew_13 m_x_w_12 (jneOA m_x_w_12 m_tp_w_12)
                refine j_get C d_c_Mo_feed_74 fg_Mo_76 m_x_w_13 h0 ?_
                refine j_blk 78 [(7, .int 2), (0, .ref x), (1, .int 3), (2, .int a), (3, .int b), (4, .int c), (5, .int d), (6, .int e)] [.ref x, .ref tp] C k_c_Mo_feed_77_1 rfl ?_
                refine j_get C d_c_Mo_feed_78 fg_Mo_116 m_x_w_13 h1 ?_
                refine j_blk 86 [(7, .int 2), (0, .ref x), (1, .int 3), (2, .int a), (3, .int b), (4, .int c), (5, .int d), (6, .int e)] [.int 2, .int 2, .ref tp] C k_c_Mo_feed_81_3 rfl ?_
                refine j_if_ne (tgt := 93) C d_c_Mo_feed_86 (by decide) (fun c31 => ?_) (fun c31 => absurd c31 (by decide))
                refine j_blk 96 [(7, .int 2), (0, .ref x), (1, .int 3), (2, .int a), (3, .int b), (4, .int c), (5, .int d), (6, .int e)] [.int 1, .int 2, .int 2, .ref tp] C k_c_Mo_feed_93_2 rfl ?_
                refine j_icmp_ne (tgt := 103) C d_c_Mo_feed_96 (by decide) (fun c32 => ?_) (fun c32 => absurd c32 (by decide))
                refine j_blk 106 [(7, .int 2), (0, .ref x), (1, .int 3), (2, .int a), (3, .int b), (4, .int c), (5, .int d), (6, .int e)] [.int 2, .int 2, .int 2, .ref tp] C k_c_Mo_feed_103_2 rfl ?_
                refine j_icmp_ne (tgt := 114) C d_c_Mo_feed_106 (by decide) (fun c33 => absurd (by decide) c33) (fun c33 => ?_)
                refine j_blk 127 [(7, .int 2), (0, .ref x), (1, .int 3), (2, .int a), (3, .int b), (4, .int c), (5, .int d), (6, .int e)] [.int c, .int 2, .ref tp] C k_c_Mo_feed_109_2 rfl ?_
                refine j_iast C d_c_Mo_feed_127 m_tp_w_13 (jin (by decide) (by decide)) ?_
                refine jnv (fun w_14 ew_14 => ?_)
                have m_tp_w_14 : w_14.1 tp = some (aI D 120 (upd (upd (upd (fun _ => 0) 0 a) 1 b) 2 c)) := jus ew_14
                have hk_w_14 := jk0 ew_14 hk_w_13
                have fr_w_14 := jfrW ew_14 fr_w_13 (fun b e hb _ => Nat.ne_of_gt (Nat.lt_of_lt_of_le tq hb))
                refine j_blk 67 [(7, .int 3), (0, .ref x), (1, .int 3), (2, .int a), (3, .int b), (4, .int c), (5, .int d), (6, .int e)] [] C k_c_Mo_feed_128_2 rfl ?_
                refine j_blk 70 [(7, .int 3), (0, .ref x), (1, .int 3), (2, .int a), (3, .int b), (4, .int c), (5, .int d), (6, .int e)] [.int 3, .int 3] C k_c_Mo_feed_67_2 rfl ?_
                refine j_icmp_ge (tgt := 134) C d_c_Mo_feed_70 (by decide) (fun c34 => ?_) (fun c34 => absurd (by decide) c34)
                refine j_blk 136 [(7, .int 3), (0, .ref x), (1, .int 3), (2, .int a), (3, .int b), (4, .int c), (5, .int d), (6, .int e)] [.ref x, .ref x] C k_c_Mo_feed_134_2 rfl ?_
                have m_x_w_14 := jun ew_14 m_x_w_13 (jneOA m_x_w_13 m_tp_w_13)
                refine j_get C d_c_Mo_feed_136 fg_Mo_116 m_x_w_14 h1 ?_
                refine j_blk 141 [(7, .int 3), (0, .ref x), (1, .int 3), (2, .int a), (3, .int b), (4, .int c), (5, .int d), (6, .int e)] [.int 3, .ref x] C k_c_Mo_feed_139_2 rfl ?_
                refine j_put C d_c_Mo_feed_141 fp_Mo_116 m_x_w_14 rfl rfl ?_
                refine jnv (fun w_15 ew_15 => ?_)
                have m_x_w_15 : w_15.1 x = some (.inr (10, (updV V 22 (.int 3)))) := jus ew_15
                have hk_w_15 := jk0 ew_15 hk_w_14
                have fr_w_15 := jfrW ew_15 fr_w_14 (fun b e hb _ => Nat.ne_of_gt (Nat.lt_of_lt_of_le xq hb))
                refine j_blk 145 [(7, .int 3), (0, .ref x), (1, .int 3), (2, .int a), (3, .int b), (4, .int c), (5, .int d), (6, .int e)] [.ref x] C k_c_Mo_feed_144_1 rfl ?_
                refine j_get C d_c_Mo_feed_145 fg_Mo_116 m_x_w_15 rfl ?_
                exact j_iret C Rm E d_c_Mo_feed_148 ⟨hres, fr_w_15⟩ (jbnd hk_w_15.1 rfl) (jbnd hk_w_15.2 rfl)
              · show JJ g w 50 [(0, .ref x), (1, .int 4), (2, .int a), (3, .int b), (4, .int c), (5, .int d), (6, .int e)] []
                refine j_blk 51 [(0, .ref x), (1, .int 4), (2, .int a), (3, .int b), (4, .int c), (5, .int d), (6, .int e)] [.ref x] C k_c_Mo_feed_50_1 rfl ?_
                refine j_get C d_c_Mo_feed_51 fg_Mo_116 hx h1 ?_
                refine j_blk 58 [(0, .ref x), (1, .int 4), (2, .int a), (3, .int b), (4, .int c), (5, .int d), (6, .int e)] [.int 120, .int 4] C k_c_Mo_feed_54_3 rfl ?_
                refine j_icmp_le (tgt := 64) C d_c_Mo_feed_58 (by decide) (fun c35 => ?_) (fun c35 => absurd (by decide) c35)
                refine j_blk 70 [(7, .int 0), (0, .ref x), (1, .int 4), (2, .int a), (3, .int b), (4, .int c), (5, .int d), (6, .int e)] [.int 4, .int 0] C k_c_Mo_feed_64_4 rfl ?_
                refine j_icmp_ge (tgt := 134) C d_c_Mo_feed_70 (by decide) (fun c36 => absurd c36 (by decide)) (fun c36 => ?_)
                refine j_blk 74 [(7, .int 0), (0, .ref x), (1, .int 4), (2, .int a), (3, .int b), (4, .int c), (5, .int d), (6, .int e)] [.ref x] C k_c_Mo_feed_73_1 rfl ?_
                refine j_get C d_c_Mo_feed_74 fg_Mo_76 hx h0 ?_
                refine j_blk 78 [(7, .int 0), (0, .ref x), (1, .int 4), (2, .int a), (3, .int b), (4, .int c), (5, .int d), (6, .int e)] [.ref x, .ref tp] C k_c_Mo_feed_77_1 rfl ?_
                refine j_get C d_c_Mo_feed_78 fg_Mo_116 hx h1 ?_
                refine j_blk 86 [(7, .int 0), (0, .ref x), (1, .int 4), (2, .int a), (3, .int b), (4, .int c), (5, .int d), (6, .int e)] [.int 0, .int 0, .ref tp] C k_c_Mo_feed_81_3 rfl ?_
                refine j_if_ne (tgt := 93) C d_c_Mo_feed_86 (by decide) (fun c37 => absurd (by decide) c37) (fun c37 => ?_)
                refine j_blk 127 [(7, .int 0), (0, .ref x), (1, .int 4), (2, .int a), (3, .int b), (4, .int c), (5, .int d), (6, .int e)] [.int a, .int 0, .ref tp] C k_c_Mo_feed_89_2 rfl ?_
                refine j_iast C d_c_Mo_feed_127 ht (jin (by decide) (by decide)) ?_
                refine jnv (fun w_16 ew_16 => ?_)
                have m_tp_w_16 : w_16.1 tp = some (aI D 120 (upd (fun _ => 0) 0 a)) := jus ew_16
                have hk_w_16 := jk0 ew_16 hk
                have fr_w_16 := jfrW ew_16 fr0 (fun b e hb _ => Nat.ne_of_gt (Nat.lt_of_lt_of_le tq hb))
                refine j_blk 67 [(7, .int 1), (0, .ref x), (1, .int 4), (2, .int a), (3, .int b), (4, .int c), (5, .int d), (6, .int e)] [] C k_c_Mo_feed_128_2 rfl ?_
                refine j_blk 70 [(7, .int 1), (0, .ref x), (1, .int 4), (2, .int a), (3, .int b), (4, .int c), (5, .int d), (6, .int e)] [.int 4, .int 1] C k_c_Mo_feed_67_2 rfl ?_
                refine j_icmp_ge (tgt := 134) C d_c_Mo_feed_70 (by decide) (fun c38 => absurd c38 (by decide)) (fun c38 => ?_)
                refine j_blk 74 [(7, .int 1), (0, .ref x), (1, .int 4), (2, .int a), (3, .int b), (4, .int c), (5, .int d), (6, .int e)] [.ref x] C k_c_Mo_feed_73_1 rfl ?_
                have m_x_w_16 := jun ew_16 hx (jneOA hx ht)
                refine j_get C d_c_Mo_feed_74 fg_Mo_76 m_x_w_16 h0 ?_
                refine j_blk 78 [(7, .int 1), (0, .ref x), (1, .int 4), (2, .int a), (3, .int b), (4, .int c), (5, .int d), (6, .int e)] [.ref x, .ref tp] C k_c_Mo_feed_77_1 rfl ?_
                refine j_get C d_c_Mo_feed_78 fg_Mo_116 m_x_w_16 h1 ?_
                refine j_blk 86 [(7, .int 1), (0, .ref x), (1, .int 4), (2, .int a), (3, .int b), (4, .int c), (5, .int d), (6, .int e)] [.int 1, .int 1, .ref tp] C k_c_Mo_feed_81_3 rfl ?_
                refine j_if_ne (tgt := 93) C d_c_Mo_feed_86 (by decide) (fun c39 => ?_) (fun c39 => absurd c39 (by decide))
                refine j_blk 96 [(7, .int 1), (0, .ref x), (1, .int 4), (2, .int a), (3, .int b), (4, .int c), (5, .int d), (6, .int e)] [.int 1, .int 1, .int 1, .ref tp] C k_c_Mo_feed_93_2 rfl ?_
                refine j_icmp_ne (tgt := 103) C d_c_Mo_feed_96 (by decide) (fun c40 => absurd (by decide) c40) (fun c40 => ?_)
                refine j_blk 127 [(7, .int 1), (0, .ref x), (1, .int 4), (2, .int a), (3, .int b), (4, .int c), (5, .int d), (6, .int e)] [.int b, .int 1, .ref tp] C k_c_Mo_feed_99_2 rfl ?_
                refine j_iast C d_c_Mo_feed_127 m_tp_w_16 (jin (by decide) (by decide)) ?_
                refine jnv (fun w_17 ew_17 => ?_)
                have m_tp_w_17 : w_17.1 tp = some (aI D 120 (upd (upd (fun _ => 0) 0 a) 1 b)) := jus ew_17
                have hk_w_17 := jk0 ew_17 hk_w_16
                have fr_w_17 := jfrW ew_17 fr_w_16 (fun b e hb _ => Nat.ne_of_gt (Nat.lt_of_lt_of_le tq hb))
                refine j_blk 67 [(7, .int 2), (0, .ref x), (1, .int 4), (2, .int a), (3, .int b), (4, .int c), (5, .int d), (6, .int e)] [] C k_c_Mo_feed_128_2 rfl ?_
                refine j_blk 70 [(7, .int 2), (0, .ref x), (1, .int 4), (2, .int a), (3, .int b), (4, .int c), (5, .int d), (6, .int e)] [.int 4, .int 2] C k_c_Mo_feed_67_2 rfl ?_
                refine j_icmp_ge (tgt := 134) C d_c_Mo_feed_70 (by decide) (fun c41 => absurd c41 (by decide)) (fun c41 => ?_)
                refine j_blk 74 [(7, .int 2), (0, .ref x), (1, .int 4), (2, .int a), (3, .int b), (4, .int c), (5, .int d), (6, .int e)] [.ref x] C k_c_Mo_feed_73_1 rfl ?_
                have m_x_w_17 := jun ew_17 m_x_w_16 (jneOA m_x_w_16 m_tp_w_16)
                refine j_get C d_c_Mo_feed_74 fg_Mo_76 m_x_w_17 h0 ?_
                refine j_blk 78 [(7, .int 2), (0, .ref x), (1, .int 4), (2, .int a), (3, .int b), (4, .int c), (5, .int d), (6, .int e)] [.ref x, .ref tp] C k_c_Mo_feed_77_1 rfl ?_
                refine j_get C d_c_Mo_feed_78 fg_Mo_116 m_x_w_17 h1 ?_
                refine j_blk 86 [(7, .int 2), (0, .ref x), (1, .int 4), (2, .int a), (3, .int b), (4, .int c), (5, .int d), (6, .int e)] [.int 2, .int 2, .ref tp] C k_c_Mo_feed_81_3 rfl ?_
                refine j_if_ne (tgt := 93) C d_c_Mo_feed_86 (by decide) (fun c42 => ?_) (fun c42 => absurd c42 (by decide))
                refine j_blk 96 [(7, .int 2), (0, .ref x), (1, .int 4), (2, .int a), (3, .int b), (4, .int c), (5, .int d), (6, .int e)] [.int 1, .int 2, .int 2, .ref tp] C k_c_Mo_feed_93_2 rfl ?_
                refine j_icmp_ne (tgt := 103) C d_c_Mo_feed_96 (by decide) (fun c43 => ?_) (fun c43 => absurd c43 (by decide))
                refine j_blk 106 [(7, .int 2), (0, .ref x), (1, .int 4), (2, .int a), (3, .int b), (4, .int c), (5, .int d), (6, .int e)] [.int 2, .int 2, .int 2, .ref tp] C k_c_Mo_feed_103_2 rfl ?_
                refine j_icmp_ne (tgt := 114) C d_c_Mo_feed_106 (by decide) (fun c44 => absurd (by decide) c44) (fun c44 => ?_)
                refine j_blk 127 [(7, .int 2), (0, .ref x), (1, .int 4), (2, .int a), (3, .int b), (4, .int c), (5, .int d), (6, .int e)] [.int c, .int 2, .ref tp] C k_c_Mo_feed_109_2 rfl ?_
                refine j_iast C d_c_Mo_feed_127 m_tp_w_17 (jin (by decide) (by decide)) ?_
                refine jnv (fun w_18 ew_18 => ?_)
                have m_tp_w_18 : w_18.1 tp = some (aI D 120 (upd (upd (upd (fun _ => 0) 0 a) 1 b) 2 c)) := jus ew_18
                have hk_w_18 := jk0 ew_18 hk_w_17
                have fr_w_18 := jfrW ew_18 fr_w_17 (fun b e hb _ => Nat.ne_of_gt (Nat.lt_of_lt_of_le tq hb))
                refine j_blk 67 [(7, .int 3), (0, .ref x), (1, .int 4), (2, .int a), (3, .int b), (4, .int c), (5, .int d), (6, .int e)] [] C k_c_Mo_feed_128_2 rfl ?_
                refine j_blk 70 [(7, .int 3), (0, .ref x), (1, .int 4), (2, .int a), (3, .int b), (4, .int c), (5, .int d), (6, .int e)] [.int 4, .int 3] C k_c_Mo_feed_67_2 rfl ?_
                refine j_icmp_ge (tgt := 134) C d_c_Mo_feed_70 (by decide) (fun c45 => absurd c45 (by decide)) (fun c45 => ?_)
                refine j_blk 74 [(7, .int 3), (0, .ref x), (1, .int 4), (2, .int a), (3, .int b), (4, .int c), (5, .int d), (6, .int e)] [.ref x] C k_c_Mo_feed_73_1 rfl ?_
                have m_x_w_18 := jun ew_18 m_x_w_17 (jneOA m_x_w_17 m_tp_w_17)
                refine j_get C d_c_Mo_feed_74 fg_Mo_76 m_x_w_18 h0 ?_
                refine j_blk 78 [(7, .int 3), (0, .ref x), (1, .int 4), (2, .int a), (3, .int b), (4, .int c), (5, .int d), (6, .int e)] [.ref x, .ref tp] C k_c_Mo_feed_77_1 rfl ?_
                refine j_get C d_c_Mo_feed_78 fg_Mo_116 m_x_w_18 h1 ?_
                refine j_blk 86 [(7, .int 3), (0, .ref x), (1, .int 4), (2, .int a), (3, .int b), (4, .int c), (5, .int d), (6, .int e)] [.int 3, .int 3, .ref tp] C k_c_Mo_feed_81_3 rfl ?_
                refine j_if_ne (tgt := 93) C d_c_Mo_feed_86 (by decide) (fun c46 => ?_) (fun c46 => absurd c46 (by decide))
                refine j_blk 96 [(7, .int 3), (0, .ref x), (1, .int 4), (2, .int a), (3, .int b), (4, .int c), (5, .int d), (6, .int e)] [.int 1, .int 3, .int 3, .ref tp] C k_c_Mo_feed_93_2 rfl ?_
                refine j_icmp_ne (tgt := 103) C d_c_Mo_feed_96 (by decide) (fun c47 => ?_) (fun c47 => absurd c47 (by decide))
                refine j_blk 106 [(7, .int 3), (0, .ref x), (1, .int 4), (2, .int a), (3, .int b), (4, .int c), (5, .int d), (6, .int e)] [.int 2, .int 3, .int 3, .ref tp] C k_c_Mo_feed_103_2 rfl ?_
                refine j_icmp_ne (tgt := 114) C d_c_Mo_feed_106 (by decide) (fun c48 => ?_) (fun c48 => absurd c48 (by decide))
                refine j_blk 117 [(7, .int 3), (0, .ref x), (1, .int 4), (2, .int a), (3, .int b), (4, .int c), (5, .int d), (6, .int e)] [.int 3, .int 3, .int 3, .ref tp] C k_c_Mo_feed_114_2 rfl ?_
                refine j_icmp_ne (tgt := 125) C d_c_Mo_feed_117 (by decide) (fun c49 => absurd (by decide) c49) (fun c49 => ?_)
                refine j_blk 127 [(7, .int 3), (0, .ref x), (1, .int 4), (2, .int a), (3, .int b), (4, .int c), (5, .int d), (6, .int e)] [.int d, .int 3, .ref tp] C k_c_Mo_feed_120_2 rfl ?_
                refine j_iast C d_c_Mo_feed_127 m_tp_w_18 (jin (by decide) (by decide)) ?_
                refine jnv (fun w_19 ew_19 => ?_)
                have m_tp_w_19 : w_19.1 tp = some (aI D 120 (upd (upd (upd (upd (fun _ => 0) 0 a) 1 b) 2 c) 3 d)) := jus ew_19
                have hk_w_19 := jk0 ew_19 hk_w_18
                have fr_w_19 := jfrW ew_19 fr_w_18 (fun b e hb _ => Nat.ne_of_gt (Nat.lt_of_lt_of_le tq hb))
                refine j_blk 67 [(7, .int 4), (0, .ref x), (1, .int 4), (2, .int a), (3, .int b), (4, .int c), (5, .int d), (6, .int e)] [] C k_c_Mo_feed_128_2 rfl ?_
                refine j_blk 70 [(7, .int 4), (0, .ref x), (1, .int 4), (2, .int a), (3, .int b), (4, .int c), (5, .int d), (6, .int e)] [.int 4, .int 4] C k_c_Mo_feed_67_2 rfl ?_
                refine j_icmp_ge (tgt := 134) C d_c_Mo_feed_70 (by decide) (fun c50 => ?_) (fun c50 => absurd (by decide) c50)
                refine j_blk 136 [(7, .int 4), (0, .ref x), (1, .int 4), (2, .int a), (3, .int b), (4, .int c), (5, .int d), (6, .int e)] [.ref x, .ref x] C k_c_Mo_feed_134_2 rfl ?_
                have m_x_w_19 := jun ew_19 m_x_w_18 (jneOA m_x_w_18 m_tp_w_18)
                refine j_get C d_c_Mo_feed_136 fg_Mo_116 m_x_w_19 h1 ?_
                refine j_blk 141 [(7, .int 4), (0, .ref x), (1, .int 4), (2, .int a), (3, .int b), (4, .int c), (5, .int d), (6, .int e)] [.int 4, .ref x] C k_c_Mo_feed_139_2 rfl ?_
                refine j_put C d_c_Mo_feed_141 fp_Mo_116 m_x_w_19 rfl rfl ?_
                refine jnv (fun w_20 ew_20 => ?_)
                have m_x_w_20 : w_20.1 x = some (.inr (10, (updV V 22 (.int 4)))) := jus ew_20
                have hk_w_20 := jk0 ew_20 hk_w_19
                have fr_w_20 := jfrW ew_20 fr_w_19 (fun b e hb _ => Nat.ne_of_gt (Nat.lt_of_lt_of_le xq hb))
                refine j_blk 145 [(7, .int 4), (0, .ref x), (1, .int 4), (2, .int a), (3, .int b), (4, .int c), (5, .int d), (6, .int e)] [.ref x] C k_c_Mo_feed_144_1 rfl ?_
                refine j_get C d_c_Mo_feed_145 fg_Mo_116 m_x_w_20 rfl ?_
                exact j_iret C Rm E d_c_Mo_feed_148 ⟨hres, fr_w_20⟩ (jbnd hk_w_20.1 rfl) (jbnd hk_w_20.2 rfl)
              · show JJ g w 50 [(0, .ref x), (1, .int 5), (2, .int a), (3, .int b), (4, .int c), (5, .int d), (6, .int e)] []
                refine j_blk 51 [(0, .ref x), (1, .int 5), (2, .int a), (3, .int b), (4, .int c), (5, .int d), (6, .int e)] [.ref x] C k_c_Mo_feed_50_1 rfl ?_
                refine j_get C d_c_Mo_feed_51 fg_Mo_116 hx h1 ?_
                refine j_blk 58 [(0, .ref x), (1, .int 5), (2, .int a), (3, .int b), (4, .int c), (5, .int d), (6, .int e)] [.int 120, .int 5] C k_c_Mo_feed_54_3 rfl ?_
                refine j_icmp_le (tgt := 64) C d_c_Mo_feed_58 (by decide) (fun c51 => ?_) (fun c51 => absurd (by decide) c51)
                refine j_blk 70 [(7, .int 0), (0, .ref x), (1, .int 5), (2, .int a), (3, .int b), (4, .int c), (5, .int d), (6, .int e)] [.int 5, .int 0] C k_c_Mo_feed_64_4 rfl ?_
                refine j_icmp_ge (tgt := 134) C d_c_Mo_feed_70 (by decide) (fun c52 => absurd c52 (by decide)) (fun c52 => ?_)
                refine j_blk 74 [(7, .int 0), (0, .ref x), (1, .int 5), (2, .int a), (3, .int b), (4, .int c), (5, .int d), (6, .int e)] [.ref x] C k_c_Mo_feed_73_1 rfl ?_
                refine j_get C d_c_Mo_feed_74 fg_Mo_76 hx h0 ?_
                refine j_blk 78 [(7, .int 0), (0, .ref x), (1, .int 5), (2, .int a), (3, .int b), (4, .int c), (5, .int d), (6, .int e)] [.ref x, .ref tp] C k_c_Mo_feed_77_1 rfl ?_
                refine j_get C d_c_Mo_feed_78 fg_Mo_116 hx h1 ?_
                refine j_blk 86 [(7, .int 0), (0, .ref x), (1, .int 5), (2, .int a), (3, .int b), (4, .int c), (5, .int d), (6, .int e)] [.int 0, .int 0, .ref tp] C k_c_Mo_feed_81_3 rfl ?_
                refine j_if_ne (tgt := 93) C d_c_Mo_feed_86 (by decide) (fun c53 => absurd (by decide) c53) (fun c53 => ?_)
                refine j_blk 127 [(7, .int 0), (0, .ref x), (1, .int 5), (2, .int a), (3, .int b), (4, .int c), (5, .int d), (6, .int e)] [.int a, .int 0, .ref tp] C k_c_Mo_feed_89_2 rfl ?_
                refine j_iast C d_c_Mo_feed_127 ht (jin (by decide) (by decide)) ?_
                refine jnv (fun w_21 ew_21 => ?_)
                have m_tp_w_21 : w_21.1 tp = some (aI D 120 (upd (fun _ => 0) 0 a)) := jus ew_21
                have hk_w_21 := jk0 ew_21 hk
                have fr_w_21 := jfrW ew_21 fr0 (fun b e hb _ => Nat.ne_of_gt (Nat.lt_of_lt_of_le tq hb))
                refine j_blk 67 [(7, .int 1), (0, .ref x), (1, .int 5), (2, .int a), (3, .int b), (4, .int c), (5, .int d), (6, .int e)] [] C k_c_Mo_feed_128_2 rfl ?_
                refine j_blk 70 [(7, .int 1), (0, .ref x), (1, .int 5), (2, .int a), (3, .int b), (4, .int c), (5, .int d), (6, .int e)] [.int 5, .int 1] C k_c_Mo_feed_67_2 rfl ?_
                refine j_icmp_ge (tgt := 134) C d_c_Mo_feed_70 (by decide) (fun c54 => absurd c54 (by decide)) (fun c54 => ?_)
                refine j_blk 74 [(7, .int 1), (0, .ref x), (1, .int 5), (2, .int a), (3, .int b), (4, .int c), (5, .int d), (6, .int e)] [.ref x] C k_c_Mo_feed_73_1 rfl ?_
                have m_x_w_21 := jun ew_21 hx (jneOA hx ht)
                refine j_get C d_c_Mo_feed_74 fg_Mo_76 m_x_w_21 h0 ?_
                refine j_blk 78 [(7, .int 1), (0, .ref x), (1, .int 5), (2, .int a), (3, .int b), (4, .int c), (5, .int d), (6, .int e)] [.ref x, .ref tp] C k_c_Mo_feed_77_1 rfl ?_
                refine j_get C d_c_Mo_feed_78 fg_Mo_116 m_x_w_21 h1 ?_
                refine j_blk 86 [(7, .int 1), (0, .ref x), (1, .int 5), (2, .int a), (3, .int b), (4, .int c), (5, .int d), (6, .int e)] [.int 1, .int 1, .ref tp] C k_c_Mo_feed_81_3 rfl ?_
                refine j_if_ne (tgt := 93) C d_c_Mo_feed_86 (by decide) (fun c55 => ?_) (fun c55 => absurd c55 (by decide))
                refine j_blk 96 [(7, .int 1), (0, .ref x), (1, .int 5), (2, .int a), (3, .int b), (4, .int c), (5, .int d), (6, .int e)] [.int 1, .int 1, .int 1, .ref tp] C k_c_Mo_feed_93_2 rfl ?_
                refine j_icmp_ne (tgt := 103) C d_c_Mo_feed_96 (by decide) (fun c56 => absurd (by decide) c56) (fun c56 => ?_)
                refine j_blk 127 [(7, .int 1), (0, .ref x), (1, .int 5), (2, .int a), (3, .int b), (4, .int c), (5, .int d), (6, .int e)] [.int b, .int 1, .ref tp] C k_c_Mo_feed_99_2 rfl ?_
                refine j_iast C d_c_Mo_feed_127 m_tp_w_21 (jin (by decide) (by decide)) ?_
                refine jnv (fun w_22 ew_22 => ?_)
                have m_tp_w_22 : w_22.1 tp = some (aI D 120 (upd (upd (fun _ => 0) 0 a) 1 b)) := jus ew_22
                have hk_w_22 := jk0 ew_22 hk_w_21
                have fr_w_22 := jfrW ew_22 fr_w_21 (fun b e hb _ => Nat.ne_of_gt (Nat.lt_of_lt_of_le tq hb))
                refine j_blk 67 [(7, .int 2), (0, .ref x), (1, .int 5), (2, .int a), (3, .int b), (4, .int c), (5, .int d), (6, .int e)] [] C k_c_Mo_feed_128_2 rfl ?_
                refine j_blk 70 [(7, .int 2), (0, .ref x), (1, .int 5), (2, .int a), (3, .int b), (4, .int c), (5, .int d), (6, .int e)] [.int 5, .int 2] C k_c_Mo_feed_67_2 rfl ?_
                refine j_icmp_ge (tgt := 134) C d_c_Mo_feed_70 (by decide) (fun c57 => absurd c57 (by decide)) (fun c57 => ?_)
                refine j_blk 74 [(7, .int 2), (0, .ref x), (1, .int 5), (2, .int a), (3, .int b), (4, .int c), (5, .int d), (6, .int e)] [.ref x] C k_c_Mo_feed_73_1 rfl ?_
                have m_x_w_22 := jun ew_22 m_x_w_21 (jneOA m_x_w_21 m_tp_w_21)
                refine j_get C d_c_Mo_feed_74 fg_Mo_76 m_x_w_22 h0 ?_
                refine j_blk 78 [(7, .int 2), (0, .ref x), (1, .int 5), (2, .int a), (3, .int b), (4, .int c), (5, .int d), (6, .int e)] [.ref x, .ref tp] C k_c_Mo_feed_77_1 rfl ?_
                refine j_get C d_c_Mo_feed_78 fg_Mo_116 m_x_w_22 h1 ?_
                refine j_blk 86 [(7, .int 2), (0, .ref x), (1, .int 5), (2, .int a), (3, .int b), (4, .int c), (5, .int d), (6, .int e)] [.int 2, .int 2, .ref tp] C k_c_Mo_feed_81_3 rfl ?_
                refine j_if_ne (tgt := 93) C d_c_Mo_feed_86 (by decide) (fun c58 => ?_) (fun c58 => absurd c58 (by decide))
                refine j_blk 96 [(7, .int 2), (0, .ref x), (1, .int 5), (2, .int a), (3, .int b), (4, .int c), (5, .int d), (6, .int e)] [.int 1, .int 2, .int 2, .ref tp] C k_c_Mo_feed_93_2 rfl ?_
                refine j_icmp_ne (tgt := 103) C d_c_Mo_feed_96 (by decide) (fun c59 => ?_) (fun c59 => absurd c59 (by decide))
                refine j_blk 106 [(7, .int 2), (0, .ref x), (1, .int 5), (2, .int a), (3, .int b), (4, .int c), (5, .int d), (6, .int e)] [.int 2, .int 2, .int 2, .ref tp] C k_c_Mo_feed_103_2 rfl ?_
                refine j_icmp_ne (tgt := 114) C d_c_Mo_feed_106 (by decide) (fun c60 => absurd (by decide) c60) (fun c60 => ?_)
                refine j_blk 127 [(7, .int 2), (0, .ref x), (1, .int 5), (2, .int a), (3, .int b), (4, .int c), (5, .int d), (6, .int e)] [.int c, .int 2, .ref tp] C k_c_Mo_feed_109_2 rfl ?_
                refine j_iast C d_c_Mo_feed_127 m_tp_w_22 (jin (by decide) (by decide)) ?_
                refine jnv (fun w_23 ew_23 => ?_)
                have m_tp_w_23 : w_23.1 tp = some (aI D 120 (upd (upd (upd (fun _ => 0) 0 a) 1 b) 2 c)) := jus ew_23
                have hk_w_23 := jk0 ew_23 hk_w_22
                have fr_w_23 := jfrW ew_23 fr_w_22 (fun b e hb _ => Nat.ne_of_gt (Nat.lt_of_lt_of_le tq hb))
                refine j_blk 67 [(7, .int 3), (0, .ref x), (1, .int 5), (2, .int a), (3, .int b), (4, .int c), (5, .int d), (6, .int e)] [] C k_c_Mo_feed_128_2 rfl ?_
                refine j_blk 70 [(7, .int 3), (0, .ref x), (1, .int 5), (2, .int a), (3, .int b), (4, .int c), (5, .int d), (6, .int e)] [.int 5, .int 3] C k_c_Mo_feed_67_2 rfl ?_
                refine j_icmp_ge (tgt := 134) C d_c_Mo_feed_70 (by decide) (fun c61 => absurd c61 (by decide)) (fun c61 => ?_)
                refine j_blk 74 [(7, .int 3), (0, .ref x), (1, .int 5), (2, .int a), (3, .int b), (4, .int c), (5, .int d), (6, .int e)] [.ref x] C k_c_Mo_feed_73_1 rfl ?_
                have m_x_w_23 := jun ew_23 m_x_w_22 (jneOA m_x_w_22 m_tp_w_22)
                refine j_get C d_c_Mo_feed_74 fg_Mo_76 m_x_w_23 h0 ?_
                refine j_blk 78 [(7, .int 3), (0, .ref x), (1, .int 5), (2, .int a), (3, .int b), (4, .int c), (5, .int d), (6, .int e)] [.ref x, .ref tp] C k_c_Mo_feed_77_1 rfl ?_
                refine j_get C d_c_Mo_feed_78 fg_Mo_116 m_x_w_23 h1 ?_
                refine j_blk 86 [(7, .int 3), (0, .ref x), (1, .int 5), (2, .int a), (3, .int b), (4, .int c), (5, .int d), (6, .int e)] [.int 3, .int 3, .ref tp] C k_c_Mo_feed_81_3 rfl ?_
                refine j_if_ne (tgt := 93) C d_c_Mo_feed_86 (by decide) (fun c62 => ?_) (fun c62 => absurd c62 (by decide))
                refine j_blk 96 [(7, .int 3), (0, .ref x), (1, .int 5), (2, .int a), (3, .int b), (4, .int c), (5, .int d), (6, .int e)] [.int 1, .int 3, .int 3, .ref tp] C k_c_Mo_feed_93_2 rfl ?_
                refine j_icmp_ne (tgt := 103) C d_c_Mo_feed_96 (by decide) (fun c63 => ?_) (fun c63 => absurd c63 (by decide))
                refine j_blk 106 [(7, .int 3), (0, .ref x), (1, .int 5), (2, .int a), (3, .int b), (4, .int c), (5, .int d), (6, .int e)] [.int 2, .int 3, .int 3, .ref tp] C k_c_Mo_feed_103_2 rfl ?_
                refine j_icmp_ne (tgt := 114) C d_c_Mo_feed_106 (by decide) (fun c64 => ?_) (fun c64 => absurd c64 (by decide))
                refine j_blk 117 [(7, .int 3), (0, .ref x), (1, .int 5), (2, .int a), (3, .int b), (4, .int c), (5, .int d), (6, .int e)] [.int 3, .int 3, .int 3, .ref tp] C k_c_Mo_feed_114_2 rfl ?_
                refine j_icmp_ne (tgt := 125) C d_c_Mo_feed_117 (by decide) (fun c65 => absurd (by decide) c65) (fun c65 => ?_)
                refine j_blk 127 [(7, .int 3), (0, .ref x), (1, .int 5), (2, .int a), (3, .int b), (4, .int c), (5, .int d), (6, .int e)] [.int d, .int 3, .ref tp] C k_c_Mo_feed_120_2 rfl ?_
                refine j_iast C d_c_Mo_feed_127 m_tp_w_23 (jin (by decide) (by decide)) ?_
                refine jnv (fun w_24 ew_24 => ?_)
                have m_tp_w_24 : w_24.1 tp = some (aI D 120 (upd (upd (upd (upd (fun _ => 0) 0 a) 1 b) 2 c) 3 d)) := jus ew_24
                have hk_w_24 := jk0 ew_24 hk_w_23
                have fr_w_24 := jfrW ew_24 fr_w_23 (fun b e hb _ => Nat.ne_of_gt (Nat.lt_of_lt_of_le tq hb))
                refine j_blk 67 [(7, .int 4), (0, .ref x), (1, .int 5), (2, .int a), (3, .int b), (4, .int c), (5, .int d), (6, .int e)] [] C k_c_Mo_feed_128_2 rfl ?_
                refine j_blk 70 [(7, .int 4), (0, .ref x), (1, .int 5), (2, .int a), (3, .int b), (4, .int c), (5, .int d), (6, .int e)] [.int 5, .int 4] C k_c_Mo_feed_67_2 rfl ?_
                refine j_icmp_ge (tgt := 134) C d_c_Mo_feed_70 (by decide) (fun c66 => absurd c66 (by decide)) (fun c66 => ?_)
                refine j_blk 74 [(7, .int 4), (0, .ref x), (1, .int 5), (2, .int a), (3, .int b), (4, .int c), (5, .int d), (6, .int e)] [.ref x] C k_c_Mo_feed_73_1 rfl ?_
                have m_x_w_24 := jun ew_24 m_x_w_23 (jneOA m_x_w_23 m_tp_w_23)
                refine j_get C d_c_Mo_feed_74 fg_Mo_76 m_x_w_24 h0 ?_
                refine j_blk 78 [(7, .int 4), (0, .ref x), (1, .int 5), (2, .int a), (3, .int b), (4, .int c), (5, .int d), (6, .int e)] [.ref x, .ref tp] C k_c_Mo_feed_77_1 rfl ?_
                refine j_get C d_c_Mo_feed_78 fg_Mo_116 m_x_w_24 h1 ?_
                refine j_blk 86 [(7, .int 4), (0, .ref x), (1, .int 5), (2, .int a), (3, .int b), (4, .int c), (5, .int d), (6, .int e)] [.int 4, .int 4, .ref tp] C k_c_Mo_feed_81_3 rfl ?_
                refine j_if_ne (tgt := 93) C d_c_Mo_feed_86 (by decide) (fun c67 => ?_) (fun c67 => absurd c67 (by decide))
                refine j_blk 96 [(7, .int 4), (0, .ref x), (1, .int 5), (2, .int a), (3, .int b), (4, .int c), (5, .int d), (6, .int e)] [.int 1, .int 4, .int 4, .ref tp] C k_c_Mo_feed_93_2 rfl ?_
                refine j_icmp_ne (tgt := 103) C d_c_Mo_feed_96 (by decide) (fun c68 => ?_) (fun c68 => absurd c68 (by decide))
                refine j_blk 106 [(7, .int 4), (0, .ref x), (1, .int 5), (2, .int a), (3, .int b), (4, .int c), (5, .int d), (6, .int e)] [.int 2, .int 4, .int 4, .ref tp] C k_c_Mo_feed_103_2 rfl ?_
                refine j_icmp_ne (tgt := 114) C d_c_Mo_feed_106 (by decide) (fun c69 => ?_) (fun c69 => absurd c69 (by decide))
                refine j_blk 117 [(7, .int 4), (0, .ref x), (1, .int 5), (2, .int a), (3, .int b), (4, .int c), (5, .int d), (6, .int e)] [.int 3, .int 4, .int 4, .ref tp] C k_c_Mo_feed_114_2 rfl ?_
                refine j_icmp_ne (tgt := 125) C d_c_Mo_feed_117 (by decide) (fun c70 => ?_) (fun c70 => absurd c70 (by decide))
                refine j_blk 127 [(7, .int 4), (0, .ref x), (1, .int 5), (2, .int a), (3, .int b), (4, .int c), (5, .int d), (6, .int e)] [.int e, .int 4, .ref tp] C k_c_Mo_feed_125_1 rfl ?_
                refine j_iast C d_c_Mo_feed_127 m_tp_w_24 (jin (by decide) (by decide)) ?_
                refine jnv (fun w_25 ew_25 => ?_)
                have m_tp_w_25 : w_25.1 tp = some (aI D 120 (upd (upd (upd (upd (upd (fun _ => 0) 0 a) 1 b) 2 c) 3 d) 4 e)) := jus ew_25
                have hk_w_25 := jk0 ew_25 hk_w_24
                have fr_w_25 := jfrW ew_25 fr_w_24 (fun b e hb _ => Nat.ne_of_gt (Nat.lt_of_lt_of_le tq hb))
                refine j_blk 67 [(7, .int 5), (0, .ref x), (1, .int 5), (2, .int a), (3, .int b), (4, .int c), (5, .int d), (6, .int e)] [] C k_c_Mo_feed_128_2 rfl ?_
                refine j_blk 70 [(7, .int 5), (0, .ref x), (1, .int 5), (2, .int a), (3, .int b), (4, .int c), (5, .int d), (6, .int e)] [.int 5, .int 5] C k_c_Mo_feed_67_2 rfl ?_
                refine j_icmp_ge (tgt := 134) C d_c_Mo_feed_70 (by decide) (fun c71 => ?_) (fun c71 => absurd (by decide) c71)
                refine j_blk 136 [(7, .int 5), (0, .ref x), (1, .int 5), (2, .int a), (3, .int b), (4, .int c), (5, .int d), (6, .int e)] [.ref x, .ref x] C k_c_Mo_feed_134_2 rfl ?_
                have m_x_w_25 := jun ew_25 m_x_w_24 (jneOA m_x_w_24 m_tp_w_24)
                refine j_get C d_c_Mo_feed_136 fg_Mo_116 m_x_w_25 h1 ?_
                refine j_blk 141 [(7, .int 5), (0, .ref x), (1, .int 5), (2, .int a), (3, .int b), (4, .int c), (5, .int d), (6, .int e)] [.int 5, .ref x] C k_c_Mo_feed_139_2 rfl ?_
                refine j_put C d_c_Mo_feed_141 fp_Mo_116 m_x_w_25 rfl rfl ?_
                refine jnv (fun w_26 ew_26 => ?_)
                have m_x_w_26 : w_26.1 x = some (.inr (10, (updV V 22 (.int 5)))) := jus ew_26
                have hk_w_26 := jk0 ew_26 hk_w_25
                have fr_w_26 := jfrW ew_26 fr_w_25 (fun b e hb _ => Nat.ne_of_gt (Nat.lt_of_lt_of_le xq hb))
                refine j_blk 145 [(7, .int 5), (0, .ref x), (1, .int 5), (2, .int a), (3, .int b), (4, .int c), (5, .int d), (6, .int e)] [.ref x] C k_c_Mo_feed_144_1 rfl ?_
                refine j_get C d_c_Mo_feed_145 fg_Mo_116 m_x_w_26 rfl ?_
                exact j_iret C Rm E d_c_Mo_feed_148 ⟨hres, fr_w_26⟩ (jbnd hk_w_26.1 rfl) (jbnd hk_w_26.2 rfl)
            · have c12 := jbz.mp c12
              refine j_blk 49 [(0, .ref x), (1, .int n), (2, .int a), (3, .int b), (4, .int c), (5, .int d), (6, .int e)] [.int (-2)] C k_c_Mo_feed_47_1 rfl ?_
              exact j_iret C Rm E d_c_Mo_feed_49 ⟨jin_ (fun hq => absurd hq (by (try simp only [jlt, jle, jeq, kt_0, kt_1, kt_2, kt_3, kt_4, kt_5, kt_6, kt_7, kt_8, kt_9, kt_10, kt_11, kt_12, kt_13, kt_15, kt_16, kt_19, kt_20, kt_24, kt_25, kt_31, kt_32, kt_40, kt_50, kt_60, kt_63, kt_100, kt_120, kt_255, kt_300, kt_999999, kt_1000000, kt_m1, kt_m2, kt_m3, kt_m4, kt_m6, kt_m7, kt_m11, kt_m12, kt_m13, kt_m14, kt_m100] at c2); (try simp only [jlt, jle, jeq, kt_0, kt_1, kt_2, kt_3, kt_4, kt_5, kt_6, kt_7, kt_8, kt_9, kt_10, kt_11, kt_12, kt_13, kt_15, kt_16, kt_19, kt_20, kt_24, kt_25, kt_31, kt_32, kt_40, kt_50, kt_60, kt_63, kt_100, kt_120, kt_255, kt_300, kt_999999, kt_1000000, kt_m1, kt_m2, kt_m3, kt_m4, kt_m6, kt_m7, kt_m11, kt_m12, kt_m13, kt_m14, kt_m100] at c4); (try simp only [jlt, jle, jeq, kt_0, kt_1, kt_2, kt_3, kt_4, kt_5, kt_6, kt_7, kt_8, kt_9, kt_10, kt_11, kt_12, kt_13, kt_15, kt_16, kt_19, kt_20, kt_24, kt_25, kt_31, kt_32, kt_40, kt_50, kt_60, kt_63, kt_100, kt_120, kt_255, kt_300, kt_999999, kt_1000000, kt_m1, kt_m2, kt_m3, kt_m4, kt_m6, kt_m7, kt_m11, kt_m12, kt_m13, kt_m14, kt_m100] at c6); (try simp only [jlt, jle, jeq, kt_0, kt_1, kt_2, kt_3, kt_4, kt_5, kt_6, kt_7, kt_8, kt_9, kt_10, kt_11, kt_12, kt_13, kt_15, kt_16, kt_19, kt_20, kt_24, kt_25, kt_31, kt_32, kt_40, kt_50, kt_60, kt_63, kt_100, kt_120, kt_255, kt_300, kt_999999, kt_1000000, kt_m1, kt_m2, kt_m3, kt_m4, kt_m6, kt_m7, kt_m11, kt_m12, kt_m13, kt_m14, kt_m100] at c8); (try simp only [jlt, jle, jeq, kt_0, kt_1, kt_2, kt_3, kt_4, kt_5, kt_6, kt_7, kt_8, kt_9, kt_10, kt_11, kt_12, kt_13, kt_15, kt_16, kt_19, kt_20, kt_24, kt_25, kt_31, kt_32, kt_40, kt_50, kt_60, kt_63, kt_100, kt_120, kt_255, kt_300, kt_999999, kt_1000000, kt_m1, kt_m2, kt_m3, kt_m4, kt_m6, kt_m7, kt_m11, kt_m12, kt_m13, kt_m14, kt_m100] at c10); (try simp only [jlt, jle, jeq, kt_0, kt_1, kt_2, kt_3, kt_4, kt_5, kt_6, kt_7, kt_8, kt_9, kt_10, kt_11, kt_12, kt_13, kt_15, kt_16, kt_19, kt_20, kt_24, kt_25, kt_31, kt_32, kt_40, kt_50, kt_60, kt_63, kt_100, kt_120, kt_255, kt_300, kt_999999, kt_1000000, kt_m1, kt_m2, kt_m3, kt_m4, kt_m6, kt_m7, kt_m11, kt_m12, kt_m13, kt_m14, kt_m100] at c12); (try simp only [kt_0, kt_1, kt_2, kt_3, kt_4, kt_5, kt_6, kt_7, kt_8, kt_9, kt_10, kt_11, kt_12, kt_13, kt_15, kt_16, kt_19, kt_20, kt_24, kt_25, kt_31, kt_32, kt_40, kt_50, kt_60, kt_63, kt_100, kt_120, kt_255, kt_300, kt_999999, kt_1000000, kt_m1, kt_m2, kt_m3, kt_m4, kt_m6, kt_m7, kt_m11, kt_m12, kt_m13, kt_m14, kt_m100]); omega)), fr0⟩ (jbnd hk.1 rfl) (jbnd hk.2 rfl)
