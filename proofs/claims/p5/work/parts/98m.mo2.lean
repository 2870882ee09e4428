/-! the reference as it is made: all its cells (own work, by program) -/
def mbs (q0 q1 q2 q3 q4 q5 q6 q7 q8 q9 q10 q11 q12 q13 q14 q15 q16 q17 q18 q19 q20 q21 q22 q23 q24 q25 q26 : Nat) (P : Nat → Nat) (i : Nat) : Nat := match i with
  | 0 => q0
  | 1 => q1
  | 2 => q2
  | 3 => q3
  | 4 => q4
  | 5 => q5
  | 6 => q6
  | 7 => q7
  | 8 => q8
  | 9 => q9
  | 10 => q10
  | 11 => q11
  | 12 => q12
  | 13 => q13
  | 14 => q14
  | 15 => q15
  | 16 => q16
  | 17 => q17
  | 18 => q18
  | 19 => q19
  | 20 => q20
  | 21 => q21
  | 22 => q22
  | 23 => q23
  | 24 => q24
  | 25 => q25
  | 26 => q26
  | n + 27 => P n
/-- the pool's Odds, k of them, behind lo -/
def mods (D : va_G) (w : jW) (F : Nat → Option Nat) (P : Nat → Nat) (k lo : Nat) : Prop := (∀ j, j < k → F j = some (P (3 * j)) ∧ (∃ W : Nat → Value, w.1 (P (3 * j)) = some (.inr (9, W)) ∧ W 0 = .ref (P (3 * j + 1)) ∧ W 1 = .ref (P (3 * j + 2)) ∧ W 2 = .int 0) ∧ w.1 (P (3 * j + 1)) = some (aI D 301 (fun _ => 0)) ∧ w.1 (P (3 * j + 2)) = some (aJ D 301 (fun _ => 0))) ∧ (∀ j, j + 1 < 3 * k → P j < P (j + 1)) ∧ (0 < k → lo < P 0)
theorem nI_clampY {n : Nat} (h : n < 2 ^ 31) : Int32.toNatClampNeg (nI n) = n := by
  show (nI n).toInt.toNat = n
  rw [nI_toInt h]
  rfl
def mup (P : Nat → Nat) (k a b c : Nat) (j : Nat) : Nat := if j < 3 * k then P j else if j = 3 * k then a else if j = 3 * k + 1 then b else c
theorem mup_lo {P : Nat → Nat} {k a b c j : Nat} (h : j < 3 * k) : mup P k a b c j = P j := if_pos h
theorem mup_0 {P : Nat → Nat} {k a b c : Nat} : mup P k a b c (3 * k) = a := by
  unfold mup
  rw [if_neg (by omega), if_pos rfl]
theorem mup_1 {P : Nat → Nat} {k a b c : Nat} : mup P k a b c (3 * k + 1) = b := by
  unfold mup
  rw [if_neg (by omega), if_neg (by omega), if_pos rfl]
theorem mup_2 {P : Nat → Nat} {k a b c : Nat} : mup P k a b c (3 * k + 2) = c := by
  unfold mup
  rw [if_neg (by omega), if_neg (by omega), if_neg (by omega)]
theorem mods.snoc {D : va_G} {w1 w2 : jW} {F F0 : Nat → Option Nat} {P : Nat → Nat} {k lo pool q c1 c2 : Nat} {elo : jEl} (h : mods D w1 F P k lo) (hk : k < 200) (hpool : w1.1 pool = some (aR D 11 200 F0)) (hlo : w1.1 lo = some elo) (hq : ∀ b e, w1.1 b = some e → b < q) (keep : ∀ b e, w1.1 b = some e → b ≠ pool → w2.1 b = some e) (h1 : q < c1) (h2 : c1 < c2)
    (hc : ∃ W : Nat → Value, w2.1 q = some (.inr (9, W)) ∧ W 0 = .ref c1 ∧ W 1 = .ref c2 ∧ W 2 = .int 0) (e1 : w2.1 c1 = some (aI D 301 (fun _ => 0))) (e2 : w2.1 c2 = some (aJ D 301 (fun _ => 0))) : mods D w2 (va_up F (Int32.toNatClampNeg (nI k)) (some q)) (mup P k q c1 c2) (k + 1) lo := by
  rw [nI_clampY (show k < 2 ^ 31 by omega)]
  refine ⟨fun j hj => ?_, fun j hj => ?_, fun _ => ?_⟩
  · by_cases e : j = k
    · rw [e, va_up_self, mup_0, mup_1, mup_2]
      exact ⟨rfl, hc, e1, e2⟩
    · obtain ⟨a1, ⟨W, a2, a3, a4, a5⟩, a6, a7⟩ := h.1 j (by omega)
      rw [va_up_ne _ _ e, mup_lo (by omega), mup_lo (by omega), mup_lo (by omega)]
      exact ⟨a1, ⟨W, keep _ _ a2 (jneOA a2 hpool), a3, a4, a5⟩, keep _ _ a6 (jneIJ a6 hpool), keep _ _ a7 (jneN a7 hpool rfl)⟩
  · by_cases g1 : j + 1 < 3 * k
    · rw [mup_lo g1, mup_lo (by omega)]
      exact h.2.1 j g1
    · by_cases g2 : j + 1 = 3 * k
      · obtain ⟨-, -, -, a7⟩ := h.1 (k - 1) (by omega)
        rw [g2, mup_0, mup_lo (by omega), show j = 3 * (k - 1) + 2 by omega]
        exact hq _ _ a7
      · by_cases g3 : j = 3 * k
        · rw [g3, mup_0, mup_1]
          exact h1
        · rw [show j = 3 * k + 1 by omega, mup_1, show 3 * k + 1 + 1 = 3 * k + 2 by omega, mup_2]
          exact h2
  · by_cases e : k = 0
    · subst e
      exact hq _ _ hlo
    · rw [mup_lo (by omega)]
      exact h.2.2 (by omega)

set_option maxHeartbeats 40000000 in
set_option maxRecDepth 100000 in
theorem c_Odds_init2 (l : Launch) (D : va_G) (B : Nat) (H0 : Heap) (w : jW) (a : Nat) (V : Nat → Value) (ha : w.1 a = some (.inr (9, V))) : jMet l D B H0 y_Odds_init b_Odds_init 1 none 1 40 2 602 [.ref a] w (fun v w9 => v = none ∧ (w9.2.1 = w.2.1 + 2 ∧ w9.2.2 = w.2.2 + 602) ∧ jfr (fun b => b ≠ a) w w9 ∧ ∃ (V9 : Nat → Value) (c1 c2 : Nat), c1 < c2 ∧ (∀ b e, w.1 b = some e → b < c1) ∧ (∀ b e, w.1 b = some e → b < c2) ∧ w9.1 a = some (.inr (9, V9)) ∧ V9 0 = .ref c1 ∧ V9 1 = .ref c2 ∧ V9 2 = V 2 ∧ w9.1 c1 = some (aI D 301 (fun _ => 0)) ∧ w9.1 c2 = some (aJ D 301 (fun _ => 0))) := by
  refine j_met (by decide) (Nat.le_of_ble_eq_true rfl) (fun g C Rm Y E => ?_)
  have hin : (jGy g).name = "<init>" := congrArg MethodName.name Y.2.2.2
  have hk := jkz w
  have fr0 : jfr (fun b => b ≠ a) w w := jfr0
  show JJ g w 0 [(0, .ref a)] []
  refine j_blk 1 [(0, .ref a)] [.ref a] C k_c_Odds_init_0_1 rfl ?_
  refine j_obj C Rm cl_Odds_3 d_c_Odds_init_1 (by decide) (by decide) ?_
  refine j_blk 8 [(0, .ref a)] [.int 301, .ref a] C k_c_Odds_init_4_2 rfl ?_
  refine j_newa (n := 301) C Rm d_c_Odds_init_8 rfl ac_int (by decide) (by decide) (by decide) (jroom hk.1 rfl) (jroom hk.2 rfl) (fun q1 f_q1 => ?_)
  refine jnv (fun w_1 ew_1 => ?_)
  have m_q1_w_1 : w_1.1 q1 = some (aI D 301 (fun _ => 0)) := jus ew_1
  have hk_w_1 := jk1 ew_1 hk
  have lt_q1 := jfrL fr0 f_q1
  have fr_w_1 := jfrN ew_1 fr0 f_q1
  have x_a_q1 := Nat.ne_of_lt (f_q1 _ _ ha)
  have m_a_w_1 := jun ew_1 ha x_a_q1
  refine j_putF C hin d_c_Odds_init_10 ff_Odds_9 m_a_w_1 rfl rfl ?_
  refine jnv (fun w_2 ew_2 => ?_)
  have m_a_w_2 : w_2.1 a = some (.inr (9, (updV V 0 (.ref q1)))) := jus ew_2
  have hk_w_2 := jk0 ew_2 hk_w_1
  have fr_w_2 := jfrW ew_2 fr_w_1 (fun b e hb _ => hb)
  refine j_blk 17 [(0, .ref a)] [.int 301, .ref a] C k_c_Odds_init_13_2 rfl ?_
  refine j_newa (n := 301) C Rm d_c_Odds_init_17 rfl ac_long (by decide) (by decide) (by decide) (jroom hk_w_2.1 rfl) (jroom hk_w_2.2 rfl) (fun q2 f_q2 => ?_)
  refine jnv (fun w_3 ew_3 => ?_)
  have m_q2_w_3 : w_3.1 q2 = some (aJ D 301 (fun _ => 0)) := jus ew_3
  have hk_w_3 := jk1 ew_3 hk_w_2
  have lt_q2 := jfrL fr_w_2 f_q2
  have fr_w_3 := jfrN ew_3 fr_w_2 f_q2
  have x_a_q2 := Nat.ne_of_lt (f_q2 _ _ m_a_w_2)
  have m_a_w_3 := jun ew_3 m_a_w_2 x_a_q2
  refine j_putF C hin d_c_Odds_init_19 ff_Odds_15 m_a_w_3 rfl rfl ?_
  refine jnv (fun w_4 ew_4 => ?_)
  have m_a_w_4 : w_4.1 a = some (.inr (9, (updV (updV V 0 (.ref q1)) 1 (.ref q2)))) := jus ew_4
  have hk_w_4 := jk0 ew_4 hk_w_3
  have fr_w_4 := jfrW ew_4 fr_w_3 (fun b e hb _ => hb)
  have m_q1_w_2 := jun ew_2 m_q1_w_1 (Ne.symm x_a_q1)
  have x_q1_q2 := Nat.ne_of_lt (f_q2 _ _ m_q1_w_2)
  have m_q1_w_3 := jun ew_3 m_q1_w_2 x_q1_q2
  have m_q1_w_4 := jun ew_4 m_q1_w_3 (Ne.symm x_a_q1)
  have m_q2_w_4 := jun ew_4 m_q2_w_3 (Ne.symm x_a_q2)
  exact j_vret C Rm E d_c_Odds_init_22 ⟨rfl, hk_w_4, fr_w_4, _, q1, q2, f_q2 _ _ m_q1_w_2, lt_q1, lt_q2, m_a_w_4, rfl, rfl, rfl, m_q1_w_4, m_q2_w_4⟩ (jbnd hk_w_4.1 rfl) (jbnd hk_w_4.2 rfl)


def moK (D : va_G) (w w9 : jW) (a : Nat) (V V9 : Nat → Value) (bs : Nat → Nat) (F : Nat → Option Nat) : Prop := w9.1 a = some (.inr (10, V9)) ∧ V9 0 = V 0 ∧ V9 1 = .ref (bs 0) ∧ V9 2 = .ref (bs 1) ∧ V9 3 = .ref (bs 2) ∧ V9 4 = .ref (bs 3) ∧ V9 5 = .ref (bs 4) ∧ V9 6 = .ref (bs 5) ∧ V9 7 = .ref (bs 6) ∧ V9 8 = .ref (bs 7) ∧ V9 9 = .ref (bs 8) ∧ V9 10 = .ref (bs 9) ∧ V9 11 = .ref (bs 10) ∧ V9 12 = .ref (bs 11) ∧ V9 13 = .ref (bs 12) ∧ V9 14 = .ref (bs 13) ∧ V9 15 = .ref (bs 14) ∧ V9 16 = .ref (bs 15) ∧ V9 17 = .ref (bs 16) ∧ V9 18 = .ref (bs 17) ∧ V9 19 = .ref (bs 18) ∧ V9 20 = .ref (bs 19) ∧ V9 21 = .ref (bs 20) ∧ V9 22 = V 22 ∧ V9 23 = V 23 ∧ V9 24 = V 24 ∧ V9 25 = V 25 ∧ V9 26 = V 26 ∧ V9 27 = V 27 ∧ V9 28 = V 28 ∧ V9 29 = V 29 ∧ V9 30 = V 30 ∧ V9 31 = V 31 ∧ V9 32 = .ref (bs 21) ∧ V9 33 = V 33 ∧ V9 34 = V 34 ∧ V9 35 = V 35 ∧ V9 36 = V 36 ∧ V9 37 = .int (-1) ∧ V9 38 = .ref (bs 22) ∧ V9 39 = .ref (bs 23) ∧ V9 40 = .ref (bs 24) ∧ V9 41 = .ref (bs 25) ∧ V9 42 = .ref (bs 26) ∧ (∀ b e, w.1 b = some e → b < bs 0) ∧ bs 0 + 1 ≤ bs 1 ∧ bs 1 + 1 ≤ bs 2 ∧ bs 2 + 1 ≤ bs 3 ∧ bs 3 + 7 ≤ bs 4 ∧ bs 4 + 7 ≤ bs 5 ∧ bs 5 + 7 ≤ bs 6 ∧ bs 6 + 7 ≤ bs 7 ∧ bs 7 + 7 ≤ bs 8 ∧ bs 8 + 7 ≤ bs 9 ∧ bs 9 + 7 ≤ bs 10 ∧ bs 10 + 7 ≤ bs 11 ∧ bs 11 + 7 ≤ bs 12 ∧ bs 12 + 7 ≤ bs 13 ∧ bs 13 + 7 ≤ bs 14 ∧ bs 14 + 7 ≤ bs 15 ∧ bs 15 + 7 ≤ bs 16 ∧ bs 16 + 1 ≤ bs 17 ∧ bs 17 + 7 ≤ bs 18 ∧ bs 18 + 7 ≤ bs 19 ∧ bs 19 + 67 ≤ bs 20 ∧ bs 20 + 1 ≤ bs 21 ∧ bs 21 + 1 ≤ bs 22 ∧ bs 22 + 1 ≤ bs 23 ∧ bs 23 + 1 ≤ bs 24 ∧ bs 24 + 1 ≤ bs 25 ∧ bs 25 + 5 ≤ bs 26 ∧ bs 26 < bs 27 ∧ w9.1 (bs 0) = some (aI D 6 (fun _ => 0)) ∧ w9.1 (bs 1) = some (aI D 6 (fun _ => 0)) ∧ w9.1 (bs 2) = some (aI D 6 (fun _ => 0)) ∧ (w9.1 (bs 3) = some (aR D 3 6 (jro 6 (fun j => bs 3 + 1 + j))) ∧ ∀ j, j < 6 → w9.1 (bs 3 + 1 + j) = some (aI D 16 (fun _ => 0))) ∧ (w9.1 (bs 4) = some (aR D 3 6 (jro 6 (fun j => bs 4 + 1 + j))) ∧ ∀ j, j < 6 → w9.1 (bs 4 + 1 + j) = some (aI D 16 (fun _ => 0))) ∧ (w9.1 (bs 5) = some (aR D 3 6 (jro 6 (fun j => bs 5 + 1 + j))) ∧ ∀ j, j < 6 → w9.1 (bs 5 + 1 + j) = some (aI D 16 (fun _ => 0))) ∧ (w9.1 (bs 6) = some (aR D 3 6 (jro 6 (fun j => bs 6 + 1 + j))) ∧ ∀ j, j < 6 → w9.1 (bs 6 + 1 + j) = some (aI D 16 (fun _ => 0))) ∧ (w9.1 (bs 7) = some (aR D 3 6 (jro 6 (fun j => bs 7 + 1 + j))) ∧ ∀ j, j < 6 → w9.1 (bs 7 + 1 + j) = some (aI D 16 (fun _ => 0))) ∧ (w9.1 (bs 8) = some (aR D 3 6 (jro 6 (fun j => bs 8 + 1 + j))) ∧ ∀ j, j < 6 → w9.1 (bs 8 + 1 + j) = some (aI D 16 (fun _ => 0))) ∧ (w9.1 (bs 9) = some (aR D 3 6 (jro 6 (fun j => bs 9 + 1 + j))) ∧ ∀ j, j < 6 → w9.1 (bs 9 + 1 + j) = some (aI D 16 (fun _ => 0))) ∧ (w9.1 (bs 10) = some (aR D 3 6 (jro 6 (fun j => bs 10 + 1 + j))) ∧ ∀ j, j < 6 → w9.1 (bs 10 + 1 + j) = some (aI D 120 (fun _ => 0))) ∧ (w9.1 (bs 11) = some (aR D 3 6 (jro 6 (fun j => bs 11 + 1 + j))) ∧ ∀ j, j < 6 → w9.1 (bs 11 + 1 + j) = some (aI D 120 (fun _ => 0))) ∧ (w9.1 (bs 12) = some (aR D 3 6 (jro 6 (fun j => bs 12 + 1 + j))) ∧ ∀ j, j < 6 → w9.1 (bs 12 + 1 + j) = some (aI D 120 (fun _ => 0))) ∧ (w9.1 (bs 13) = some (aR D 3 6 (jro 6 (fun j => bs 13 + 1 + j))) ∧ ∀ j, j < 6 → w9.1 (bs 13 + 1 + j) = some (aI D 120 (fun _ => 0))) ∧ (w9.1 (bs 14) = some (aR D 3 6 (jro 6 (fun j => bs 14 + 1 + j))) ∧ ∀ j, j < 6 → w9.1 (bs 14 + 1 + j) = some (aI D 120 (fun _ => 0))) ∧ (w9.1 (bs 15) = some (aR D 3 6 (jro 6 (fun j => bs 15 + 1 + j))) ∧ ∀ j, j < 6 → w9.1 (bs 15 + 1 + j) = some (aI D 120 (fun _ => 0))) ∧ w9.1 (bs 16) = some (aI D 6 (fun _ => 0)) ∧ (w9.1 (bs 17) = some (aR D 4 6 (jro 6 (fun j => bs 17 + 1 + j))) ∧ ∀ j, j < 6 → w9.1 (bs 17 + 1 + j) = some (aZ D 10 (fun _ => 0))) ∧ (w9.1 (bs 18) = some (aR D 4 6 (jro 6 (fun j => bs 18 + 1 + j))) ∧ ∀ j, j < 6 → w9.1 (bs 18 + 1 + j) = some (aZ D 10 (fun _ => 0))) ∧ (w9.1 (bs 19) = some (aR D 6 6 (jro 6 (fun j => bs 19 + 1 + j * (10 + 1)))) ∧ (∀ j, j < 6 → w9.1 (bs 19 + 1 + j * (10 + 1)) = some (aR D 5 10 (jro 10 (fun i => bs 19 + 1 + j * (10 + 1) + 1 + i)))) ∧ ∀ j, j < 6 → ∀ i, i < 10 → w9.1 (bs 19 + 1 + j * (10 + 1) + 1 + i) = some (aJ D 10 (fun _ => 0))) ∧ w9.1 (bs 20) = some (aI D 120 (fun _ => 0)) ∧ (w9.1 (bs 21) = some (aR D 11 200 F) ∧ mods D w9 F (fun n => bs (n + 27)) 200 (bs 26)) ∧ w9.1 (bs 22) = some (aI D 6 (fun _ => 0)) ∧ w9.1 (bs 23) = some (aI D 4 (upd (upd (upd (upd (fun _ => 0) 0 (-1)) 1 (-1)) 2 (-1)) 3 (-1))) ∧ w9.1 (bs 24) = some (aI D 4 (fun _ => 0)) ∧ (w9.1 (bs 25) = some (aR D 3 4 (jro 4 (fun j => bs 25 + 1 + j))) ∧ ∀ j, j < 4 → w9.1 (bs 25 + 1 + j) = some (aI D 40 (fun _ => 0))) ∧ w9.1 (bs 26) = some (aI D 40 (fun _ => 0))

theorem k_c_Mo_init2_0_1 : sblk b_Mo_init [(0, .aload_n 0, .null)] := sblk_of (by decide +kernel)
theorem d_c_Mo_init2_1 : decode b_Mo_init 1 = .ok (.invokespecial 1, 3) := by decide +kernel
theorem k_c_Mo_init2_4_2 : sblk b_Mo_init [(4, .aload_n 0, .null), (5, .bipush 6, .int 6)] := sblk_of (by decide +kernel)
theorem d_c_Mo_init2_7 : decode b_Mo_init 7 = .ok (.newarray .int, 2) := by decide +kernel
theorem d_c_Mo_init2_9 : decode b_Mo_init 9 = .ok (.putfield 9, 3) := by decide +kernel
theorem k_c_Mo_init2_12_2 : sblk b_Mo_init [(12, .aload_n 0, .null), (13, .bipush 6, .int 6)] := sblk_of (by decide +kernel)
theorem d_c_Mo_init2_15 : decode b_Mo_init 15 = .ok (.newarray .int, 2) := by decide +kernel
theorem d_c_Mo_init2_17 : decode b_Mo_init 17 = .ok (.putfield 13, 3) := by decide +kernel
theorem k_c_Mo_init2_20_2 : sblk b_Mo_init [(20, .aload_n 0, .null), (21, .bipush 6, .int 6)] := sblk_of (by decide +kernel)
theorem d_c_Mo_init2_23 : decode b_Mo_init 23 = .ok (.newarray .int, 2) := by decide +kernel
theorem d_c_Mo_init2_25 : decode b_Mo_init 25 = .ok (.putfield 16, 3) := by decide +kernel
theorem k_c_Mo_init2_28_3 : sblk b_Mo_init [(28, .aload_n 0, .null), (29, .bipush 6, .int 6), (31, .bipush 16, .int 16)] := sblk_of (by decide +kernel)
theorem d_c_Mo_init2_33 : decode b_Mo_init 33 = .ok (.multianewarray 19 2, 4) := by decide +kernel
theorem d_c_Mo_init2_37 : decode b_Mo_init 37 = .ok (.putfield 21, 3) := by decide +kernel
theorem k_c_Mo_init2_40_3 : sblk b_Mo_init [(40, .aload_n 0, .null), (41, .bipush 6, .int 6), (43, .bipush 16, .int 16)] := sblk_of (by decide +kernel)
theorem d_c_Mo_init2_45 : decode b_Mo_init 45 = .ok (.multianewarray 19 2, 4) := by decide +kernel
theorem d_c_Mo_init2_49 : decode b_Mo_init 49 = .ok (.putfield 24, 3) := by decide +kernel
theorem k_c_Mo_init2_52_3 : sblk b_Mo_init [(52, .aload_n 0, .null), (53, .bipush 6, .int 6), (55, .bipush 16, .int 16)] := sblk_of (by decide +kernel)
theorem d_c_Mo_init2_57 : decode b_Mo_init 57 = .ok (.multianewarray 19 2, 4) := by decide +kernel
theorem d_c_Mo_init2_61 : decode b_Mo_init 61 = .ok (.putfield 27, 3) := by decide +kernel
theorem k_c_Mo_init2_64_3 : sblk b_Mo_init [(64, .aload_n 0, .null), (65, .bipush 6, .int 6), (67, .bipush 16, .int 16)] := sblk_of (by decide +kernel)
theorem d_c_Mo_init2_69 : decode b_Mo_init 69 = .ok (.multianewarray 19 2, 4) := by decide +kernel
theorem d_c_Mo_init2_73 : decode b_Mo_init 73 = .ok (.putfield 30, 3) := by decide +kernel
theorem k_c_Mo_init2_76_3 : sblk b_Mo_init [(76, .aload_n 0, .null), (77, .bipush 6, .int 6), (79, .bipush 16, .int 16)] := sblk_of (by decide +kernel)
theorem d_c_Mo_init2_81 : decode b_Mo_init 81 = .ok (.multianewarray 19 2, 4) := by decide +kernel
theorem d_c_Mo_init2_85 : decode b_Mo_init 85 = .ok (.putfield 33, 3) := by decide +kernel
theorem k_c_Mo_init2_88_3 : sblk b_Mo_init [(88, .aload_n 0, .null), (89, .bipush 6, .int 6), (91, .bipush 16, .int 16)] := sblk_of (by decide +kernel)
theorem d_c_Mo_init2_93 : decode b_Mo_init 93 = .ok (.multianewarray 19 2, 4) := by decide +kernel
theorem d_c_Mo_init2_97 : decode b_Mo_init 97 = .ok (.putfield 36, 3) := by decide +kernel
theorem k_c_Mo_init2_100_3 : sblk b_Mo_init [(100, .aload_n 0, .null), (101, .bipush 6, .int 6), (103, .bipush 16, .int 16)] := sblk_of (by decide +kernel)
theorem d_c_Mo_init2_105 : decode b_Mo_init 105 = .ok (.multianewarray 19 2, 4) := by decide +kernel
theorem d_c_Mo_init2_109 : decode b_Mo_init 109 = .ok (.putfield 39, 3) := by decide +kernel
theorem k_c_Mo_init2_112_3 : sblk b_Mo_init [(112, .aload_n 0, .null), (113, .bipush 6, .int 6), (115, .bipush 120, .int 120)] := sblk_of (by decide +kernel)
theorem d_c_Mo_init2_117 : decode b_Mo_init 117 = .ok (.multianewarray 19 2, 4) := by decide +kernel
theorem d_c_Mo_init2_121 : decode b_Mo_init 121 = .ok (.putfield 42, 3) := by decide +kernel
theorem k_c_Mo_init2_124_3 : sblk b_Mo_init [(124, .aload_n 0, .null), (125, .bipush 6, .int 6), (127, .bipush 120, .int 120)] := sblk_of (by decide +kernel)
theorem d_c_Mo_init2_129 : decode b_Mo_init 129 = .ok (.multianewarray 19 2, 4) := by decide +kernel
theorem d_c_Mo_init2_133 : decode b_Mo_init 133 = .ok (.putfield 45, 3) := by decide +kernel
theorem k_c_Mo_init2_136_3 : sblk b_Mo_init [(136, .aload_n 0, .null), (137, .bipush 6, .int 6), (139, .bipush 120, .int 120)] := sblk_of (by decide +kernel)
theorem d_c_Mo_init2_141 : decode b_Mo_init 141 = .ok (.multianewarray 19 2, 4) := by decide +kernel
theorem d_c_Mo_init2_145 : decode b_Mo_init 145 = .ok (.putfield 48, 3) := by decide +kernel
theorem k_c_Mo_init2_148_3 : sblk b_Mo_init [(148, .aload_n 0, .null), (149, .bipush 6, .int 6), (151, .bipush 120, .int 120)] := sblk_of (by decide +kernel)
theorem d_c_Mo_init2_153 : decode b_Mo_init 153 = .ok (.multianewarray 19 2, 4) := by decide +kernel
theorem d_c_Mo_init2_157 : decode b_Mo_init 157 = .ok (.putfield 51, 3) := by decide +kernel
theorem k_c_Mo_init2_160_3 : sblk b_Mo_init [(160, .aload_n 0, .null), (161, .bipush 6, .int 6), (163, .bipush 120, .int 120)] := sblk_of (by decide +kernel)
theorem d_c_Mo_init2_165 : decode b_Mo_init 165 = .ok (.multianewarray 19 2, 4) := by decide +kernel
theorem d_c_Mo_init2_169 : decode b_Mo_init 169 = .ok (.putfield 54, 3) := by decide +kernel
theorem k_c_Mo_init2_172_3 : sblk b_Mo_init [(172, .aload_n 0, .null), (173, .bipush 6, .int 6), (175, .bipush 120, .int 120)] := sblk_of (by decide +kernel)
theorem d_c_Mo_init2_177 : decode b_Mo_init 177 = .ok (.multianewarray 19 2, 4) := by decide +kernel
theorem d_c_Mo_init2_181 : decode b_Mo_init 181 = .ok (.putfield 57, 3) := by decide +kernel
theorem k_c_Mo_init2_184_2 : sblk b_Mo_init [(184, .aload_n 0, .null), (185, .bipush 6, .int 6)] := sblk_of (by decide +kernel)
theorem d_c_Mo_init2_187 : decode b_Mo_init 187 = .ok (.newarray .int, 2) := by decide +kernel
theorem d_c_Mo_init2_189 : decode b_Mo_init 189 = .ok (.putfield 60, 3) := by decide +kernel
theorem k_c_Mo_init2_192_3 : sblk b_Mo_init [(192, .aload_n 0, .null), (193, .bipush 6, .int 6), (195, .bipush 10, .int 10)] := sblk_of (by decide +kernel)
theorem d_c_Mo_init2_197 : decode b_Mo_init 197 = .ok (.multianewarray 63 2, 4) := by decide +kernel
theorem d_c_Mo_init2_201 : decode b_Mo_init 201 = .ok (.putfield 65, 3) := by decide +kernel
theorem k_c_Mo_init2_204_3 : sblk b_Mo_init [(204, .aload_n 0, .null), (205, .bipush 6, .int 6), (207, .bipush 10, .int 10)] := sblk_of (by decide +kernel)
theorem d_c_Mo_init2_209 : decode b_Mo_init 209 = .ok (.multianewarray 63 2, 4) := by decide +kernel
theorem d_c_Mo_init2_213 : decode b_Mo_init 213 = .ok (.putfield 68, 3) := by decide +kernel
theorem k_c_Mo_init2_216_4 : sblk b_Mo_init [(216, .aload_n 0, .null), (217, .bipush 6, .int 6), (219, .bipush 10, .int 10), (221, .bipush 10, .int 10)] := sblk_of (by decide +kernel)
theorem d_c_Mo_init2_223 : decode b_Mo_init 223 = .ok (.multianewarray 71 3, 4) := by decide +kernel
theorem d_c_Mo_init2_227 : decode b_Mo_init 227 = .ok (.putfield 73, 3) := by decide +kernel
theorem k_c_Mo_init2_230_2 : sblk b_Mo_init [(230, .aload_n 0, .null), (231, .bipush 120, .int 120)] := sblk_of (by decide +kernel)
theorem d_c_Mo_init2_233 : decode b_Mo_init 233 = .ok (.newarray .int, 2) := by decide +kernel
theorem d_c_Mo_init2_235 : decode b_Mo_init 235 = .ok (.putfield 76, 3) := by decide +kernel
theorem k_c_Mo_init2_238_2 : sblk b_Mo_init [(238, .aload_n 0, .null), (239, .sipush 200, .int 200)] := sblk_of (by decide +kernel)
theorem d_c_Mo_init2_242 : decode b_Mo_init 242 = .ok (.anewarray 79, 3) := by decide +kernel
theorem d_c_Mo_init2_245 : decode b_Mo_init 245 = .ok (.putfield 81, 3) := by decide +kernel
theorem k_c_Mo_init2_248_2 : sblk b_Mo_init [(248, .aload_n 0, .null), (249, .iconst (-1), .int (-1))] := sblk_of (by decide +kernel)
theorem d_c_Mo_init2_250 : decode b_Mo_init 250 = .ok (.putfield 85, 3) := by decide +kernel
theorem k_c_Mo_init2_253_2 : sblk b_Mo_init [(253, .aload_n 0, .null), (254, .bipush 6, .int 6)] := sblk_of (by decide +kernel)
theorem d_c_Mo_init2_256 : decode b_Mo_init 256 = .ok (.newarray .int, 2) := by decide +kernel
theorem d_c_Mo_init2_258 : decode b_Mo_init 258 = .ok (.putfield 89, 3) := by decide +kernel
theorem k_c_Mo_init2_261_2 : sblk b_Mo_init [(261, .aload_n 0, .null), (262, .iconst 4, .int 4)] := sblk_of (by decide +kernel)
theorem d_c_Mo_init2_263 : decode b_Mo_init 263 = .ok (.newarray .int, 2) := by decide +kernel
theorem k_c_Mo_init2_265_3 : sblk b_Mo_init [(265, .dup, .null), (266, .iconst 0, .int 0), (267, .iconst (-1), .int (-1))] := sblk_of (by decide +kernel)
theorem d_c_Mo_init2_268 : decode b_Mo_init 268 = .ok (.iastore, 1) := by decide +kernel
theorem k_c_Mo_init2_269_3 : sblk b_Mo_init [(269, .dup, .null), (270, .iconst 1, .int 1), (271, .iconst (-1), .int (-1))] := sblk_of (by decide +kernel)
theorem d_c_Mo_init2_272 : decode b_Mo_init 272 = .ok (.iastore, 1) := by decide +kernel
theorem k_c_Mo_init2_273_3 : sblk b_Mo_init [(273, .dup, .null), (274, .iconst 2, .int 2), (275, .iconst (-1), .int (-1))] := sblk_of (by decide +kernel)
theorem d_c_Mo_init2_276 : decode b_Mo_init 276 = .ok (.iastore, 1) := by decide +kernel
theorem k_c_Mo_init2_277_3 : sblk b_Mo_init [(277, .dup, .null), (278, .iconst 3, .int 3), (279, .iconst (-1), .int (-1))] := sblk_of (by decide +kernel)
theorem d_c_Mo_init2_280 : decode b_Mo_init 280 = .ok (.iastore, 1) := by decide +kernel
theorem d_c_Mo_init2_281 : decode b_Mo_init 281 = .ok (.putfield 92, 3) := by decide +kernel
theorem k_c_Mo_init2_284_2 : sblk b_Mo_init [(284, .aload_n 0, .null), (285, .iconst 4, .int 4)] := sblk_of (by decide +kernel)
theorem d_c_Mo_init2_286 : decode b_Mo_init 286 = .ok (.newarray .int, 2) := by decide +kernel
theorem d_c_Mo_init2_288 : decode b_Mo_init 288 = .ok (.putfield 95, 3) := by decide +kernel
theorem k_c_Mo_init2_291_3 : sblk b_Mo_init [(291, .aload_n 0, .null), (292, .iconst 4, .int 4), (293, .bipush 40, .int 40)] := sblk_of (by decide +kernel)
theorem d_c_Mo_init2_295 : decode b_Mo_init 295 = .ok (.multianewarray 19 2, 4) := by decide +kernel
theorem d_c_Mo_init2_299 : decode b_Mo_init 299 = .ok (.putfield 98, 3) := by decide +kernel
theorem k_c_Mo_init2_302_2 : sblk b_Mo_init [(302, .aload_n 0, .null), (303, .bipush 40, .int 40)] := sblk_of (by decide +kernel)
theorem d_c_Mo_init2_305 : decode b_Mo_init 305 = .ok (.newarray .int, 2) := by decide +kernel
theorem d_c_Mo_init2_307 : decode b_Mo_init 307 = .ok (.putfield 101, 3) := by decide +kernel
theorem k_c_Mo_init2_310_2 : sblk b_Mo_init [(310, .iconst 0, .int 0), (311, .istore_n 1, .null)] := sblk_of (by decide +kernel)
theorem k_c_Mo_init2_312_2 : sblk b_Mo_init [(312, .iload_n 1, .null), (313, .sipush 200, .int 200)] := sblk_of (by decide +kernel)
theorem d_c_Mo_init2_316 : decode b_Mo_init 316 = .ok (.if_icmp .ge 22, 3) := by decide +kernel
theorem d_c_Mo_init2_338 : decode b_Mo_init 338 = .ok (.return_, 1) := by decide +kernel
theorem k_c_Mo_init2_319_1 : sblk b_Mo_init [(319, .aload_n 0, .null)] := sblk_of (by decide +kernel)
theorem d_c_Mo_init2_320 : decode b_Mo_init 320 = .ok (.getfield 81, 3) := by decide +kernel
theorem k_c_Mo_init2_323_1 : sblk b_Mo_init [(323, .iload_n 1, .null)] := sblk_of (by decide +kernel)
theorem d_c_Mo_init2_324 : decode b_Mo_init 324 = .ok (.new 79, 3) := by decide +kernel
theorem k_c_Mo_init2_327_1 : sblk b_Mo_init [(327, .dup, .null)] := sblk_of (by decide +kernel)
theorem d_c_Mo_init2_328 : decode b_Mo_init 328 = .ok (.invokespecial 104, 3) := by decide +kernel
theorem d_c_Mo_init2_331 : decode b_Mo_init 331 = .ok (.aastore, 1) := by decide +kernel
theorem k_c_Mo_init2_332_2 : sblk b_Mo_init [(332, .iinc 1 1, .int 1), (335, .goto (-23), .retAddr 312)] := sblk_of (by decide +kernel)
set_option maxHeartbeats 40000000 in
set_option maxRecDepth 100000 in
theorem c_Mo_init2 (l : Launch) (D : va_G) (B : Nat) (H0 : Heap) (w : jW) (a : Nat) (V : Nat → Value) (ha : w.1 a = some (.inr (10, V))) : jMet l D B H0 y_Mo_init b_Mo_init 2 none 2 80 787 127430 [.ref a] w (fun v w9 => v = none ∧ (w9.2.1 = w.2.1 + 787 ∧ w9.2.2 = w.2.2 + 127430) ∧ jfr (fun b => b ≠ a) w w9 ∧ ∃ (V9 : Nat → Value) (bs : Nat → Nat) (F : Nat → Option Nat), moK D w w9 a V V9 bs F) := by
  refine j_met (by decide) (Nat.le_of_ble_eq_true rfl) (fun g C Rm Y E => ?_)
  have hin : (jGy g).name = "<init>" := congrArg MethodName.name Y.2.2.2
  have hk := jkz w
  have fr0 : jfr (fun b => b ≠ a) w w := jfr0
  show JJ g w 0 [(0, .ref a)] []
  refine j_blk 1 [(0, .ref a)] [.ref a] C k_c_Mo_init2_0_1 rfl ?_
  refine j_obj C Rm cl_Mo_1 d_c_Mo_init2_1 (by decide) (by decide) ?_
  refine j_blk 7 [(0, .ref a)] [.int 6, .ref a] C k_c_Mo_init2_4_2 rfl ?_
  refine j_newa (n := 6) C Rm d_c_Mo_init2_7 rfl ac_int (by decide) (by decide) (by decide) (jroom hk.1 rfl) (jroom hk.2 rfl) (fun q1 f_q1 => ?_)
  refine jnv (fun w_1 ew_1 => ?_)
  have m_q1_w_1 : w_1.1 q1 = some (aI D 6 (fun _ => 0)) := jus ew_1
  have hk_w_1 := jk1 ew_1 hk
  have lt_q1 := jfrL fr0 f_q1
  have fr_w_1 := jfrN ew_1 fr0 f_q1
  have x_a_q1 := Nat.ne_of_lt (f_q1 _ _ ha)
  have m_a_w_1 := jun ew_1 ha x_a_q1
  refine j_putF C hin d_c_Mo_init2_9 ff_Mo_9 m_a_w_1 rfl rfl ?_
  refine jnv (fun w_2 ew_2 => ?_)
  have m_a_w_2 : w_2.1 a = some (.inr (10, (updV V 1 (.ref q1)))) := jus ew_2
  have hk_w_2 := jk0 ew_2 hk_w_1
  have fr_w_2 := jfrW ew_2 fr_w_1 (fun b e hb _ => hb)
  refine j_blk 15 [(0, .ref a)] [.int 6, .ref a] C k_c_Mo_init2_12_2 rfl ?_
  refine j_newa (n := 6) C Rm d_c_Mo_init2_15 rfl ac_int (by decide) (by decide) (by decide) (jroom hk_w_2.1 rfl) (jroom hk_w_2.2 rfl) (fun q2 f_q2 => ?_)
  refine jnv (fun w_3 ew_3 => ?_)
  have m_q2_w_3 : w_3.1 q2 = some (aI D 6 (fun _ => 0)) := jus ew_3
  have hk_w_3 := jk1 ew_3 hk_w_2
  have lt_q2 := jfrL fr_w_2 f_q2
  have fr_w_3 := jfrN ew_3 fr_w_2 f_q2
  have x_a_q2 := Nat.ne_of_lt (f_q2 _ _ m_a_w_2)
  have m_a_w_3 := jun ew_3 m_a_w_2 x_a_q2
  refine j_putF C hin d_c_Mo_init2_17 ff_Mo_13 m_a_w_3 rfl rfl ?_
  refine jnv (fun w_4 ew_4 => ?_)
  have m_a_w_4 : w_4.1 a = some (.inr (10, (updV (updV V 1 (.ref q1)) 2 (.ref q2)))) := jus ew_4
  have hk_w_4 := jk0 ew_4 hk_w_3
  have fr_w_4 := jfrW ew_4 fr_w_3 (fun b e hb _ => hb)
  refine j_blk 23 [(0, .ref a)] [.int 6, .ref a] C k_c_Mo_init2_20_2 rfl ?_
  refine j_newa (n := 6) C Rm d_c_Mo_init2_23 rfl ac_int (by decide) (by decide) (by decide) (jroom hk_w_4.1 rfl) (jroom hk_w_4.2 rfl) (fun q3 f_q3 => ?_)
  refine jnv (fun w_5 ew_5 => ?_)
  have m_q3_w_5 : w_5.1 q3 = some (aI D 6 (fun _ => 0)) := jus ew_5
  have hk_w_5 := jk1 ew_5 hk_w_4
  have lt_q3 := jfrL fr_w_4 f_q3
  have fr_w_5 := jfrN ew_5 fr_w_4 f_q3
  have x_a_q3 := Nat.ne_of_lt (f_q3 _ _ m_a_w_4)
  have m_a_w_5 := jun ew_5 m_a_w_4 x_a_q3
  refine j_putF C hin d_c_Mo_init2_25 ff_Mo_16 m_a_w_5 rfl rfl ?_
  refine jnv (fun w_6 ew_6 => ?_)
  have m_a_w_6 : w_6.1 a = some (.inr (10, (updV (updV (updV V 1 (.ref q1)) 2 (.ref q2)) 3 (.ref q3)))) := jus ew_6
  have hk_w_6 := jk0 ew_6 hk_w_5
  have fr_w_6 := jfrW ew_6 fr_w_5 (fun b e hb _ => hb)
  refine j_blk 33 [(0, .ref a)] [.int 16, .int 6, .ref a] C k_c_Mo_init2_28_3 rfl ?_
  refine j_mn2 (t := 3) (t0 := 0) (n := 6) (k := 16) C Rm d_c_Mo_init2_33 (by decide) rfl rfl (by rw [sj_0]; exact ca_Mo_19) (by decide) (by decide) (by decide) (by decide) (by decide) (by decide) (jroom hk_w_6.1 rfl) (jroom hk_w_6.2 rfl) (fun q4 f_q4 => ?_)
  refine jnv (fun w_7 ew_7 => ?_)
  have m_q4_w_7 : w_7.1 q4 = some (aR D 3 6 (jro 6 (fun j => q4 + 1 + j))) := jm2o ew_7
  have r_q4 : ∀ j, j < 6 → w_7.1 (q4 + 1 + j) = some (aI D 16 (fun _ => 0)) := fun j hj => jm2i ew_7 hj
  have hk_w_7 := jkM ew_7 hk_w_6
  have lt_q4 := jfrL fr_w_6 f_q4
  have fr_w_7 := jfrM2 ew_7 fr_w_6 f_q4
  have m_a_w_7 := jm2p ew_7 f_q4 m_a_w_6
  refine j_putF C hin d_c_Mo_init2_37 ff_Mo_21 m_a_w_7 rfl rfl ?_
  refine jnv (fun w_8 ew_8 => ?_)
  have m_a_w_8 : w_8.1 a = some (.inr (10, (updV (updV (updV (updV V 1 (.ref q1)) 2 (.ref q2)) 3 (.ref q3)) 4 (.ref q4)))) := jus ew_8
  have hk_w_8 := jk0 ew_8 hk_w_7
  have fr_w_8 := jfrW ew_8 fr_w_7 (fun b e hb _ => hb)
  refine j_blk 45 [(0, .ref a)] [.int 16, .int 6, .ref a] C k_c_Mo_init2_40_3 rfl ?_
  refine j_mn2 (t := 3) (t0 := 0) (n := 6) (k := 16) C Rm d_c_Mo_init2_45 (by decide) rfl rfl (by rw [sj_0]; exact ca_Mo_19) (by decide) (by decide) (by decide) (by decide) (by decide) (by decide) (jroom hk_w_8.1 rfl) (jroom hk_w_8.2 rfl) (fun q5 f_q5 => ?_)
  refine jnv (fun w_9 ew_9 => ?_)
  have m_q5_w_9 : w_9.1 q5 = some (aR D 3 6 (jro 6 (fun j => q5 + 1 + j))) := jm2o ew_9
  have r_q5 : ∀ j, j < 6 → w_9.1 (q5 + 1 + j) = some (aI D 16 (fun _ => 0)) := fun j hj => jm2i ew_9 hj
  have hk_w_9 := jkM ew_9 hk_w_8
  have lt_q5 := jfrL fr_w_8 f_q5
  have fr_w_9 := jfrM2 ew_9 fr_w_8 f_q5
  have m_a_w_9 := jm2p ew_9 f_q5 m_a_w_8
  refine j_putF C hin d_c_Mo_init2_49 ff_Mo_24 m_a_w_9 rfl rfl ?_
  refine jnv (fun w_10 ew_10 => ?_)
  have m_a_w_10 : w_10.1 a = some (.inr (10, (updV (updV (updV (updV (updV V 1 (.ref q1)) 2 (.ref q2)) 3 (.ref q3)) 4 (.ref q4)) 5 (.ref q5)))) := jus ew_10
  have hk_w_10 := jk0 ew_10 hk_w_9
  have fr_w_10 := jfrW ew_10 fr_w_9 (fun b e hb _ => hb)
  refine j_blk 57 [(0, .ref a)] [.int 16, .int 6, .ref a] C k_c_Mo_init2_52_3 rfl ?_
  refine j_mn2 (t := 3) (t0 := 0) (n := 6) (k := 16) C Rm d_c_Mo_init2_57 (by decide) rfl rfl (by rw [sj_0]; exact ca_Mo_19) (by decide) (by decide) (by decide) (by decide) (by decide) (by decide) (jroom hk_w_10.1 rfl) (jroom hk_w_10.2 rfl) (fun q6 f_q6 => ?_)
  refine jnv (fun w_11 ew_11 => ?_)
  have m_q6_w_11 : w_11.1 q6 = some (aR D 3 6 (jro 6 (fun j => q6 + 1 + j))) := jm2o ew_11
  have r_q6 : ∀ j, j < 6 → w_11.1 (q6 + 1 + j) = some (aI D 16 (fun _ => 0)) := fun j hj => jm2i ew_11 hj
  have hk_w_11 := jkM ew_11 hk_w_10
  have lt_q6 := jfrL fr_w_10 f_q6
  have fr_w_11 := jfrM2 ew_11 fr_w_10 f_q6
  have m_a_w_11 := jm2p ew_11 f_q6 m_a_w_10
  refine j_putF C hin d_c_Mo_init2_61 ff_Mo_27 m_a_w_11 rfl rfl ?_
  refine jnv (fun w_12 ew_12 => ?_)
  have m_a_w_12 : w_12.1 a = some (.inr (10, (updV (updV (updV (updV (updV (updV V 1 (.ref q1)) 2 (.ref q2)) 3 (.ref q3)) 4 (.ref q4)) 5 (.ref q5)) 6 (.ref q6)))) := jus ew_12
  have hk_w_12 := jk0 ew_12 hk_w_11
  have fr_w_12 := jfrW ew_12 fr_w_11 (fun b e hb _ => hb)
  refine j_blk 69 [(0, .ref a)] [.int 16, .int 6, .ref a] C k_c_Mo_init2_64_3 rfl ?_
  refine j_mn2 (t := 3) (t0 := 0) (n := 6) (k := 16) C Rm d_c_Mo_init2_69 (by decide) rfl rfl (by rw [sj_0]; exact ca_Mo_19) (by decide) (by decide) (by decide) (by decide) (by decide) (by decide) (jroom hk_w_12.1 rfl) (jroom hk_w_12.2 rfl) (fun q7 f_q7 => ?_)
  refine jnv (fun w_13 ew_13 => ?_)
  have m_q7_w_13 : w_13.1 q7 = some (aR D 3 6 (jro 6 (fun j => q7 + 1 + j))) := jm2o ew_13
  have r_q7 : ∀ j, j < 6 → w_13.1 (q7 + 1 + j) = some (aI D 16 (fun _ => 0)) := fun j hj => jm2i ew_13 hj
  have hk_w_13 := jkM ew_13 hk_w_12
  have lt_q7 := jfrL fr_w_12 f_q7
  have fr_w_13 := jfrM2 ew_13 fr_w_12 f_q7
  have m_a_w_13 := jm2p ew_13 f_q7 m_a_w_12
  refine j_putF C hin d_c_Mo_init2_73 ff_Mo_30 m_a_w_13 rfl rfl ?_
  refine jnv (fun w_14 ew_14 => ?_)
  have m_a_w_14 : w_14.1 a = some (.inr (10, (updV (updV (updV (updV (updV (updV (updV V 1 (.ref q1)) 2 (.ref q2)) 3 (.ref q3)) 4 (.ref q4)) 5 (.ref q5)) 6 (.ref q6)) 7 (.ref q7)))) := jus ew_14
  have hk_w_14 := jk0 ew_14 hk_w_13
  have fr_w_14 := jfrW ew_14 fr_w_13 (fun b e hb _ => hb)
  refine j_blk 81 [(0, .ref a)] [.int 16, .int 6, .ref a] C k_c_Mo_init2_76_3 rfl ?_
  refine j_mn2 (t := 3) (t0 := 0) (n := 6) (k := 16) C Rm d_c_Mo_init2_81 (by decide) rfl rfl (by rw [sj_0]; exact ca_Mo_19) (by decide) (by decide) (by decide) (by decide) (by decide) (by decide) (jroom hk_w_14.1 rfl) (jroom hk_w_14.2 rfl) (fun q8 f_q8 => ?_)
  refine jnv (fun w_15 ew_15 => ?_)
  have m_q8_w_15 : w_15.1 q8 = some (aR D 3 6 (jro 6 (fun j => q8 + 1 + j))) := jm2o ew_15
  have r_q8 : ∀ j, j < 6 → w_15.1 (q8 + 1 + j) = some (aI D 16 (fun _ => 0)) := fun j hj => jm2i ew_15 hj
  have hk_w_15 := jkM ew_15 hk_w_14
  have lt_q8 := jfrL fr_w_14 f_q8
  have fr_w_15 := jfrM2 ew_15 fr_w_14 f_q8
  have m_a_w_15 := jm2p ew_15 f_q8 m_a_w_14
  refine j_putF C hin d_c_Mo_init2_85 ff_Mo_33 m_a_w_15 rfl rfl ?_
  refine jnv (fun w_16 ew_16 => ?_)
  have m_a_w_16 : w_16.1 a = some (.inr (10, (updV (updV (updV (updV (updV (updV (updV (updV V 1 (.ref q1)) 2 (.ref q2)) 3 (.ref q3)) 4 (.ref q4)) 5 (.ref q5)) 6 (.ref q6)) 7 (.ref q7)) 8 (.ref q8)))) := jus ew_16
  have hk_w_16 := jk0 ew_16 hk_w_15
  have fr_w_16 := jfrW ew_16 fr_w_15 (fun b e hb _ => hb)
  refine j_blk 93 [(0, .ref a)] [.int 16, .int 6, .ref a] C k_c_Mo_init2_88_3 rfl ?_
  refine j_mn2 (t := 3) (t0 := 0) (n := 6) (k := 16) C Rm d_c_Mo_init2_93 (by decide) rfl rfl (by rw [sj_0]; exact ca_Mo_19) (by decide) (by decide) (by decide) (by decide) (by decide) (by decide) (jroom hk_w_16.1 rfl) (jroom hk_w_16.2 rfl) (fun q9 f_q9 => ?_)
  refine jnv (fun w_17 ew_17 => ?_)
  have m_q9_w_17 : w_17.1 q9 = some (aR D 3 6 (jro 6 (fun j => q9 + 1 + j))) := jm2o ew_17
  have r_q9 : ∀ j, j < 6 → w_17.1 (q9 + 1 + j) = some (aI D 16 (fun _ => 0)) := fun j hj => jm2i ew_17 hj
  have hk_w_17 := jkM ew_17 hk_w_16
  have lt_q9 := jfrL fr_w_16 f_q9
  have fr_w_17 := jfrM2 ew_17 fr_w_16 f_q9
  have m_a_w_17 := jm2p ew_17 f_q9 m_a_w_16
  refine j_putF C hin d_c_Mo_init2_97 ff_Mo_36 m_a_w_17 rfl rfl ?_
  refine jnv (fun w_18 ew_18 => ?_)
  have m_a_w_18 : w_18.1 a = some (.inr (10, (updV (updV (updV (updV (updV (updV (updV (updV (updV V 1 (.ref q1)) 2 (.ref q2)) 3 (.ref q3)) 4 (.ref q4)) 5 (.ref q5)) 6 (.ref q6)) 7 (.ref q7)) 8 (.ref q8)) 9 (.ref q9)))) := jus ew_18
  have hk_w_18 := jk0 ew_18 hk_w_17
  have fr_w_18 := jfrW ew_18 fr_w_17 (fun b e hb _ => hb)
  refine j_blk 105 [(0, .ref a)] [.int 16, .int 6, .ref a] C k_c_Mo_init2_100_3 rfl ?_
  refine j_mn2 (t := 3) (t0 := 0) (n := 6) (k := 16) C Rm d_c_Mo_init2_105 (by decide) rfl rfl (by rw [sj_0]; exact ca_Mo_19) (by decide) (by decide) (by decide) (by decide) (by decide) (by decide) (jroom hk_w_18.1 rfl) (jroom hk_w_18.2 rfl) (fun q10 f_q10 => ?_)
  refine jnv (fun w_19 ew_19 => ?_)
  have m_q10_w_19 : w_19.1 q10 = some (aR D 3 6 (jro 6 (fun j => q10 + 1 + j))) := jm2o ew_19
  have r_q10 : ∀ j, j < 6 → w_19.1 (q10 + 1 + j) = some (aI D 16 (fun _ => 0)) := fun j hj => jm2i ew_19 hj
  have hk_w_19 := jkM ew_19 hk_w_18
  have lt_q10 := jfrL fr_w_18 f_q10
  have fr_w_19 := jfrM2 ew_19 fr_w_18 f_q10
  have m_a_w_19 := jm2p ew_19 f_q10 m_a_w_18
  refine j_putF C hin d_c_Mo_init2_109 ff_Mo_39 m_a_w_19 rfl rfl ?_
  refine jnv (fun w_20 ew_20 => ?_)
  have m_a_w_20 : w_20.1 a = some (.inr (10, (updV (updV (updV (updV (updV (updV (updV (updV (updV (updV V 1 (.ref q1)) 2 (.ref q2)) 3 (.ref q3)) 4 (.ref q4)) 5 (.ref q5)) 6 (.ref q6)) 7 (.ref q7)) 8 (.ref q8)) 9 (.ref q9)) 10 (.ref q10)))) := jus ew_20
  have hk_w_20 := jk0 ew_20 hk_w_19
  have fr_w_20 := jfrW ew_20 fr_w_19 (fun b e hb _ => hb)
  refine j_blk 117 [(0, .ref a)] [.int 120, .int 6, .ref a] C k_c_Mo_init2_112_3 rfl ?_
  refine j_mn2 (t := 3) (t0 := 0) (n := 6) (k := 120) C Rm d_c_Mo_init2_117 (by decide) rfl rfl (by rw [sj_0]; exact ca_Mo_19) (by decide) (by decide) (by decide) (by decide) (by decide) (by decide) (jroom hk_w_20.1 rfl) (jroom hk_w_20.2 rfl) (fun q11 f_q11 => ?_)
  refine jnv (fun w_21 ew_21 => ?_)
  have m_q11_w_21 : w_21.1 q11 = some (aR D 3 6 (jro 6 (fun j => q11 + 1 + j))) := jm2o ew_21
  have r_q11 : ∀ j, j < 6 → w_21.1 (q11 + 1 + j) = some (aI D 120 (fun _ => 0)) := fun j hj => jm2i ew_21 hj
  have hk_w_21 := jkM ew_21 hk_w_20
  have lt_q11 := jfrL fr_w_20 f_q11
  have fr_w_21 := jfrM2 ew_21 fr_w_20 f_q11
  have m_a_w_21 := jm2p ew_21 f_q11 m_a_w_20
  refine j_putF C hin d_c_Mo_init2_121 ff_Mo_42 m_a_w_21 rfl rfl ?_
  refine jnv (fun w_22 ew_22 => ?_)
  have m_a_w_22 : w_22.1 a = some (.inr (10, (updV (updV (updV (updV (updV (updV (updV (updV (updV (updV (updV V 1 (.ref q1)) 2 (.ref q2)) 3 (.ref q3)) 4 (.ref q4)) 5 (.ref q5)) 6 (.ref q6)) 7 (.ref q7)) 8 (.ref q8)) 9 (.ref q9)) 10 (.ref q10)) 11 (.ref q11)))) := jus ew_22
  have hk_w_22 := jk0 ew_22 hk_w_21
  have fr_w_22 := jfrW ew_22 fr_w_21 (fun b e hb _ => hb)
  refine j_blk 129 [(0, .ref a)] [.int 120, .int 6, .ref a] C k_c_Mo_init2_124_3 rfl ?_
  refine j_mn2 (t := 3) (t0 := 0) (n := 6) (k := 120) C Rm d_c_Mo_init2_129 (by decide) rfl rfl (by rw [sj_0]; exact ca_Mo_19) (by decide) (by decide) (by decide) (by decide) (by decide) (by decide) (jroom hk_w_22.1 rfl) (jroom hk_w_22.2 rfl) (fun q12 f_q12 => ?_)
  refine jnv (fun w_23 ew_23 => ?_)
  have m_q12_w_23 : w_23.1 q12 = some (aR D 3 6 (jro 6 (fun j => q12 + 1 + j))) := jm2o ew_23
  have r_q12 : ∀ j, j < 6 → w_23.1 (q12 + 1 + j) = some (aI D 120 (fun _ => 0)) := fun j hj => jm2i ew_23 hj
  have hk_w_23 := jkM ew_23 hk_w_22
  have lt_q12 := jfrL fr_w_22 f_q12
  have fr_w_23 := jfrM2 ew_23 fr_w_22 f_q12
  have m_a_w_23 := jm2p ew_23 f_q12 m_a_w_22
  refine j_putF C hin d_c_Mo_init2_133 ff_Mo_45 m_a_w_23 rfl rfl ?_
  refine jnv (fun w_24 ew_24 => ?_)
  have m_a_w_24 : w_24.1 a = some (.inr (10, (updV (updV (updV (updV (updV (updV (updV (updV (updV (updV (updV (updV V 1 (.ref q1)) 2 (.ref q2)) 3 (.ref q3)) 4 (.ref q4)) 5 (.ref q5)) 6 (.ref q6)) 7 (.ref q7)) 8 (.ref q8)) 9 (.ref q9)) 10 (.ref q10)) 11 (.ref q11)) 12 (.ref q12)))) := jus ew_24
  have hk_w_24 := jk0 ew_24 hk_w_23
  have fr_w_24 := jfrW ew_24 fr_w_23 (fun b e hb _ => hb)
  refine j_blk 141 [(0, .ref a)] [.int 120, .int 6, .ref a] C k_c_Mo_init2_136_3 rfl ?_
  refine j_mn2 (t := 3) (t0 := 0) (n := 6) (k := 120) C Rm d_c_Mo_init2_141 (by decide) rfl rfl (by rw [sj_0]; exact ca_Mo_19) (by decide) (by decide) (by decide) (by decide) (by decide) (by decide) (jroom hk_w_24.1 rfl) (jroom hk_w_24.2 rfl) (fun q13 f_q13 => ?_)
  refine jnv (fun w_25 ew_25 => ?_)
  have m_q13_w_25 : w_25.1 q13 = some (aR D 3 6 (jro 6 (fun j => q13 + 1 + j))) := jm2o ew_25
  have r_q13 : ∀ j, j < 6 → w_25.1 (q13 + 1 + j) = some (aI D 120 (fun _ => 0)) := fun j hj => jm2i ew_25 hj
  have hk_w_25 := jkM ew_25 hk_w_24
  have lt_q13 := jfrL fr_w_24 f_q13
  have fr_w_25 := jfrM2 ew_25 fr_w_24 f_q13
  have m_a_w_25 := jm2p ew_25 f_q13 m_a_w_24
  refine j_putF C hin d_c_Mo_init2_145 ff_Mo_48 m_a_w_25 rfl rfl ?_
  refine jnv (fun w_26 ew_26 => ?_)
  have m_a_w_26 : w_26.1 a = some (.inr (10, (updV (updV (updV (updV (updV (updV (updV (updV (updV (updV (updV (updV (updV V 1 (.ref q1)) 2 (.ref q2)) 3 (.ref q3)) 4 (.ref q4)) 5 (.ref q5)) 6 (.ref q6)) 7 (.ref q7)) 8 (.ref q8)) 9 (.ref q9)) 10 (.ref q10)) 11 (.ref q11)) 12 (.ref q12)) 13 (.ref q13)))) := jus ew_26
  have hk_w_26 := jk0 ew_26 hk_w_25
  have fr_w_26 := jfrW ew_26 fr_w_25 (fun b e hb _ => hb)
  refine j_blk 153 [(0, .ref a)] [.int 120, .int 6, .ref a] C k_c_Mo_init2_148_3 rfl ?_
  refine j_mn2 (t := 3) (t0 := 0) (n := 6) (k := 120) C Rm d_c_Mo_init2_153 (by decide) rfl rfl (by rw [sj_0]; exact ca_Mo_19) (by decide) (by decide) (by decide) (by decide) (by decide) (by decide) (jroom hk_w_26.1 rfl) (jroom hk_w_26.2 rfl) (fun q14 f_q14 => ?_)
  refine jnv (fun w_27 ew_27 => ?_)
  have m_q14_w_27 : w_27.1 q14 = some (aR D 3 6 (jro 6 (fun j => q14 + 1 + j))) := jm2o ew_27
  have r_q14 : ∀ j, j < 6 → w_27.1 (q14 + 1 + j) = some (aI D 120 (fun _ => 0)) := fun j hj => jm2i ew_27 hj
  have hk_w_27 := jkM ew_27 hk_w_26
  have lt_q14 := jfrL fr_w_26 f_q14
  have fr_w_27 := jfrM2 ew_27 fr_w_26 f_q14
  have m_a_w_27 := jm2p ew_27 f_q14 m_a_w_26
  refine j_putF C hin d_c_Mo_init2_157 ff_Mo_51 m_a_w_27 rfl rfl ?_
  refine jnv (fun w_28 ew_28 => ?_)
  have m_a_w_28 : w_28.1 a = some (.inr (10, (updV (updV (updV (updV (updV (updV (updV (updV (updV (updV (updV (updV (updV (updV V 1 (.ref q1)) 2 (.ref q2)) 3 (.ref q3)) 4 (.ref q4)) 5 (.ref q5)) 6 (.ref q6)) 7 (.ref q7)) 8 (.ref q8)) 9 (.ref q9)) 10 (.ref q10)) 11 (.ref q11)) 12 (.ref q12)) 13 (.ref q13)) 14 (.ref q14)))) := jus ew_28
  have hk_w_28 := jk0 ew_28 hk_w_27
  have fr_w_28 := jfrW ew_28 fr_w_27 (fun b e hb _ => hb)
  refine j_blk 165 [(0, .ref a)] [.int 120, .int 6, .ref a] C k_c_Mo_init2_160_3 rfl ?_
  refine j_mn2 (t := 3) (t0 := 0) (n := 6) (k := 120) C Rm d_c_Mo_init2_165 (by decide) rfl rfl (by rw [sj_0]; exact ca_Mo_19) (by decide) (by decide) (by decide) (by decide) (by decide) (by decide) (jroom hk_w_28.1 rfl) (jroom hk_w_28.2 rfl) (fun q15 f_q15 => ?_)
  refine jnv (fun w_29 ew_29 => ?_)
  have m_q15_w_29 : w_29.1 q15 = some (aR D 3 6 (jro 6 (fun j => q15 + 1 + j))) := jm2o ew_29
  have r_q15 : ∀ j, j < 6 → w_29.1 (q15 + 1 + j) = some (aI D 120 (fun _ => 0)) := fun j hj => jm2i ew_29 hj
  have hk_w_29 := jkM ew_29 hk_w_28
  have lt_q15 := jfrL fr_w_28 f_q15
  have fr_w_29 := jfrM2 ew_29 fr_w_28 f_q15
  have m_a_w_29 := jm2p ew_29 f_q15 m_a_w_28
  refine j_putF C hin d_c_Mo_init2_169 ff_Mo_54 m_a_w_29 rfl rfl ?_
  refine jnv (fun w_30 ew_30 => ?_)
  have m_a_w_30 : w_30.1 a = some (.inr (10, (updV (updV (updV (updV (updV (updV (updV (updV (updV (updV (updV (updV (updV (updV (updV V 1 (.ref q1)) 2 (.ref q2)) 3 (.ref q3)) 4 (.ref q4)) 5 (.ref q5)) 6 (.ref q6)) 7 (.ref q7)) 8 (.ref q8)) 9 (.ref q9)) 10 (.ref q10)) 11 (.ref q11)) 12 (.ref q12)) 13 (.ref q13)) 14 (.ref q14)) 15 (.ref q15)))) := jus ew_30
  have hk_w_30 := jk0 ew_30 hk_w_29
  have fr_w_30 := jfrW ew_30 fr_w_29 (fun b e hb _ => hb)
  refine j_blk 177 [(0, .ref a)] [.int 120, .int 6, .ref a] C k_c_Mo_init2_172_3 rfl ?_
  refine j_mn2 (t := 3) (t0 := 0) (n := 6) (k := 120) C Rm d_c_Mo_init2_177 (by decide) rfl rfl (by rw [sj_0]; exact ca_Mo_19) (by decide) (by decide) (by decide) (by decide) (by decide) (by decide) (jroom hk_w_30.1 rfl) (jroom hk_w_30.2 rfl) (fun q16 f_q16 => ?_)
  refine jnv (fun w_31 ew_31 => ?_)
  have m_q16_w_31 : w_31.1 q16 = some (aR D 3 6 (jro 6 (fun j => q16 + 1 + j))) := jm2o ew_31
  have r_q16 : ∀ j, j < 6 → w_31.1 (q16 + 1 + j) = some (aI D 120 (fun _ => 0)) := fun j hj => jm2i ew_31 hj
  have hk_w_31 := jkM ew_31 hk_w_30
  have lt_q16 := jfrL fr_w_30 f_q16
  have fr_w_31 := jfrM2 ew_31 fr_w_30 f_q16
  have m_a_w_31 := jm2p ew_31 f_q16 m_a_w_30
  refine j_putF C hin d_c_Mo_init2_181 ff_Mo_57 m_a_w_31 rfl rfl ?_
  refine jnv (fun w_32 ew_32 => ?_)
  have m_a_w_32 : w_32.1 a = some (.inr (10, (updV (updV (updV (updV (updV (updV (updV (updV (updV (updV (updV (updV (updV (updV (updV (updV V 1 (.ref q1)) 2 (.ref q2)) 3 (.ref q3)) 4 (.ref q4)) 5 (.ref q5)) 6 (.ref q6)) 7 (.ref q7)) 8 (.ref q8)) 9 (.ref q9)) 10 (.ref q10)) 11 (.ref q11)) 12 (.ref q12)) 13 (.ref q13)) 14 (.ref q14)) 15 (.ref q15)) 16 (.ref q16)))) := jus ew_32
  have hk_w_32 := jk0 ew_32 hk_w_31
  have fr_w_32 := jfrW ew_32 fr_w_31 (fun b e hb _ => hb)
  refine j_blk 187 [(0, .ref a)] [.int 6, .ref a] C k_c_Mo_init2_184_2 rfl ?_
  refine j_newa (n := 6) C Rm d_c_Mo_init2_187 rfl ac_int (by decide) (by decide) (by decide) (jroom hk_w_32.1 rfl) (jroom hk_w_32.2 rfl) (fun q17 f_q17 => ?_)
  refine jnv (fun w_33 ew_33 => ?_)
  have m_q17_w_33 : w_33.1 q17 = some (aI D 6 (fun _ => 0)) := jus ew_33
  have hk_w_33 := jk1 ew_33 hk_w_32
  have lt_q17 := jfrL fr_w_32 f_q17
  have fr_w_33 := jfrN ew_33 fr_w_32 f_q17
  have x_a_q17 := Nat.ne_of_lt (f_q17 _ _ m_a_w_32)
  have m_a_w_33 := jun ew_33 m_a_w_32 x_a_q17
  refine j_putF C hin d_c_Mo_init2_189 ff_Mo_60 m_a_w_33 rfl rfl ?_
  refine jnv (fun w_34 ew_34 => ?_)
  have m_a_w_34 : w_34.1 a = some (.inr (10, (updV (updV (updV (updV (updV (updV (updV (updV (updV (updV (updV (updV (updV (updV (updV (updV (updV V 1 (.ref q1)) 2 (.ref q2)) 3 (.ref q3)) 4 (.ref q4)) 5 (.ref q5)) 6 (.ref q6)) 7 (.ref q7)) 8 (.ref q8)) 9 (.ref q9)) 10 (.ref q10)) 11 (.ref q11)) 12 (.ref q12)) 13 (.ref q13)) 14 (.ref q14)) 15 (.ref q15)) 16 (.ref q16)) 17 (.ref q17)))) := jus ew_34
  have hk_w_34 := jk0 ew_34 hk_w_33
  have fr_w_34 := jfrW ew_34 fr_w_33 (fun b e hb _ => hb)
  refine j_blk 197 [(0, .ref a)] [.int 10, .int 6, .ref a] C k_c_Mo_init2_192_3 rfl ?_
  refine j_mn2 (t := 4) (t0 := 2) (n := 6) (k := 10) C Rm d_c_Mo_init2_197 (by decide) rfl rfl (by rw [sj_2]; exact ca_Mo_63) (by decide) (by decide) (by decide) (by decide) (by decide) (by decide) (jroom hk_w_34.1 rfl) (jroom hk_w_34.2 rfl) (fun q18 f_q18 => ?_)
  refine jnv (fun w_35 ew_35 => ?_)
  have m_q18_w_35 : w_35.1 q18 = some (aR D 4 6 (jro 6 (fun j => q18 + 1 + j))) := jm2o ew_35
  have r_q18 : ∀ j, j < 6 → w_35.1 (q18 + 1 + j) = some (aZ D 10 (fun _ => 0)) := fun j hj => jm2i ew_35 hj
  have hk_w_35 := jkM ew_35 hk_w_34
  have lt_q18 := jfrL fr_w_34 f_q18
  have fr_w_35 := jfrM2 ew_35 fr_w_34 f_q18
  have m_a_w_35 := jm2p ew_35 f_q18 m_a_w_34
  refine j_putF C hin d_c_Mo_init2_201 ff_Mo_65 m_a_w_35 rfl rfl ?_
  refine jnv (fun w_36 ew_36 => ?_)
  have m_a_w_36 : w_36.1 a = some (.inr (10, (updV (updV (updV (updV (updV (updV (updV (updV (updV (updV (updV (updV (updV (updV (updV (updV (updV (updV V 1 (.ref q1)) 2 (.ref q2)) 3 (.ref q3)) 4 (.ref q4)) 5 (.ref q5)) 6 (.ref q6)) 7 (.ref q7)) 8 (.ref q8)) 9 (.ref q9)) 10 (.ref q10)) 11 (.ref q11)) 12 (.ref q12)) 13 (.ref q13)) 14 (.ref q14)) 15 (.ref q15)) 16 (.ref q16)) 17 (.ref q17)) 18 (.ref q18)))) := jus ew_36
  have hk_w_36 := jk0 ew_36 hk_w_35
  have fr_w_36 := jfrW ew_36 fr_w_35 (fun b e hb _ => hb)
  refine j_blk 209 [(0, .ref a)] [.int 10, .int 6, .ref a] C k_c_Mo_init2_204_3 rfl ?_
  refine j_mn2 (t := 4) (t0 := 2) (n := 6) (k := 10) C Rm d_c_Mo_init2_209 (by decide) rfl rfl (by rw [sj_2]; exact ca_Mo_63) (by decide) (by decide) (by decide) (by decide) (by decide) (by decide) (jroom hk_w_36.1 rfl) (jroom hk_w_36.2 rfl) (fun q19 f_q19 => ?_)
  refine jnv (fun w_37 ew_37 => ?_)
  have m_q19_w_37 : w_37.1 q19 = some (aR D 4 6 (jro 6 (fun j => q19 + 1 + j))) := jm2o ew_37
  have r_q19 : ∀ j, j < 6 → w_37.1 (q19 + 1 + j) = some (aZ D 10 (fun _ => 0)) := fun j hj => jm2i ew_37 hj
  have hk_w_37 := jkM ew_37 hk_w_36
  have lt_q19 := jfrL fr_w_36 f_q19
  have fr_w_37 := jfrM2 ew_37 fr_w_36 f_q19
  have m_a_w_37 := jm2p ew_37 f_q19 m_a_w_36
  refine j_putF C hin d_c_Mo_init2_213 ff_Mo_68 m_a_w_37 rfl rfl ?_
  refine jnv (fun w_38 ew_38 => ?_)
  have m_a_w_38 : w_38.1 a = some (.inr (10, (updV (updV (updV (updV (updV (updV (updV (updV (updV (updV (updV (updV (updV (updV (updV (updV (updV (updV (updV V 1 (.ref q1)) 2 (.ref q2)) 3 (.ref q3)) 4 (.ref q4)) 5 (.ref q5)) 6 (.ref q6)) 7 (.ref q7)) 8 (.ref q8)) 9 (.ref q9)) 10 (.ref q10)) 11 (.ref q11)) 12 (.ref q12)) 13 (.ref q13)) 14 (.ref q14)) 15 (.ref q15)) 16 (.ref q16)) 17 (.ref q17)) 18 (.ref q18)) 19 (.ref q19)))) := jus ew_38
  have hk_w_38 := jk0 ew_38 hk_w_37
  have fr_w_38 := jfrW ew_38 fr_w_37 (fun b e hb _ => hb)
  refine j_blk 223 [(0, .ref a)] [.int 10, .int 10, .int 6, .ref a] C k_c_Mo_init2_216_4 rfl ?_
  refine j_mn3 (t := 6) (t1 := 5) (t0 := 1) (n := 6) (m9 := 10) (k := 10) C Rm d_c_Mo_init2_223 (by decide) rfl rfl rfl (by rw [sj_3]; exact ca_Mo_71) (by decide) (by decide) (by decide) (by decide) (by decide) (by decide) (by decide) (by decide) (by decide) (jroom hk_w_38.1 rfl) (jroom hk_w_38.2 rfl) (fun q20 f_q20 => ?_)
  refine jnv (fun w_39 ew_39 => ?_)
  have m_q20_w_39 : w_39.1 q20 = some (aR D 6 6 (jro 6 (fun j => q20 + 1 + j * (10 + 1)))) := jm3o ew_39
  have r_q20 : ∀ j, j < 6 → w_39.1 (q20 + 1 + j * (10 + 1)) = some (aR D 5 10 (jro 10 (fun i => q20 + 1 + j * (10 + 1) + 1 + i))) := fun j hj => jm3m ew_39 hj
  have r2_q20 : ∀ j, j < 6 → ∀ i, i < 10 → w_39.1 (q20 + 1 + j * (10 + 1) + 1 + i) = some (aJ D 10 (fun _ => 0)) := fun j hj i hi => jm3i ew_39 hj hi
  have hk_w_39 := jkM ew_39 hk_w_38
  have lt_q20 := jfrL fr_w_38 f_q20
  have fr_w_39 := jfrM3 ew_39 fr_w_38 f_q20
  have m_a_w_39 := jm3p ew_39 f_q20 m_a_w_38
  refine j_putF C hin d_c_Mo_init2_227 ff_Mo_73 m_a_w_39 rfl rfl ?_
  refine jnv (fun w_40 ew_40 => ?_)
  have m_a_w_40 : w_40.1 a = some (.inr (10, (updV (updV (updV (updV (updV (updV (updV (updV (updV (updV (updV (updV (updV (updV (updV (updV (updV (updV (updV (updV V 1 (.ref q1)) 2 (.ref q2)) 3 (.ref q3)) 4 (.ref q4)) 5 (.ref q5)) 6 (.ref q6)) 7 (.ref q7)) 8 (.ref q8)) 9 (.ref q9)) 10 (.ref q10)) 11 (.ref q11)) 12 (.ref q12)) 13 (.ref q13)) 14 (.ref q14)) 15 (.ref q15)) 16 (.ref q16)) 17 (.ref q17)) 18 (.ref q18)) 19 (.ref q19)) 20 (.ref q20)))) := jus ew_40
  have hk_w_40 := jk0 ew_40 hk_w_39
  have fr_w_40 := jfrW ew_40 fr_w_39 (fun b e hb _ => hb)
  refine j_blk 233 [(0, .ref a)] [.int 120, .ref a] C k_c_Mo_init2_230_2 rfl ?_
  refine j_newa (n := 120) C Rm d_c_Mo_init2_233 rfl ac_int (by decide) (by decide) (by decide) (jroom hk_w_40.1 rfl) (jroom hk_w_40.2 rfl) (fun q21 f_q21 => ?_)
  refine jnv (fun w_41 ew_41 => ?_)
  have m_q21_w_41 : w_41.1 q21 = some (aI D 120 (fun _ => 0)) := jus ew_41
  have hk_w_41 := jk1 ew_41 hk_w_40
  have lt_q21 := jfrL fr_w_40 f_q21
  have fr_w_41 := jfrN ew_41 fr_w_40 f_q21
  have x_a_q21 := Nat.ne_of_lt (f_q21 _ _ m_a_w_40)
  have m_a_w_41 := jun ew_41 m_a_w_40 x_a_q21
  refine j_putF C hin d_c_Mo_init2_235 ff_Mo_76 m_a_w_41 rfl rfl ?_
  refine jnv (fun w_42 ew_42 => ?_)
  have m_a_w_42 : w_42.1 a = some (.inr (10, (updV (updV (updV (updV (updV (updV (updV (updV (updV (updV (updV (updV (updV (updV (updV (updV (updV (updV (updV (updV (updV V 1 (.ref q1)) 2 (.ref q2)) 3 (.ref q3)) 4 (.ref q4)) 5 (.ref q5)) 6 (.ref q6)) 7 (.ref q7)) 8 (.ref q8)) 9 (.ref q9)) 10 (.ref q10)) 11 (.ref q11)) 12 (.ref q12)) 13 (.ref q13)) 14 (.ref q14)) 15 (.ref q15)) 16 (.ref q16)) 17 (.ref q17)) 18 (.ref q18)) 19 (.ref q19)) 20 (.ref q20)) 21 (.ref q21)))) := jus ew_42
  have hk_w_42 := jk0 ew_42 hk_w_41
  have fr_w_42 := jfrW ew_42 fr_w_41 (fun b e hb _ => hb)
  refine j_blk 242 [(0, .ref a)] [.int 200, .ref a] C k_c_Mo_init2_238_2 rfl ?_
  refine j_anew (t := 11) (n := 200) C Rm d_c_Mo_init2_242 rfl (by decide) ca_Mo_79 (by decide) (by decide) (by decide) (jroom hk_w_42.1 rfl) (jroom hk_w_42.2 rfl) (fun q22 f_q22 => ?_)
  refine jnv (fun w_43 ew_43 => ?_)
  have m_q22_w_43 : w_43.1 q22 = some (aR D 11 200 (fun _ => none)) := jus ew_43
  have hk_w_43 := jk1 ew_43 hk_w_42
  have lt_q22 := jfrL fr_w_42 f_q22
  have fr_w_43 := jfrN ew_43 fr_w_42 f_q22
  have x_a_q22 := Nat.ne_of_lt (f_q22 _ _ m_a_w_42)
  have m_a_w_43 := jun ew_43 m_a_w_42 x_a_q22
  refine j_putF C hin d_c_Mo_init2_245 ff_Mo_81 m_a_w_43 rfl rfl ?_
  refine jnv (fun w_44 ew_44 => ?_)
  have m_a_w_44 : w_44.1 a = some (.inr (10, (updV (updV (updV (updV (updV (updV (updV (updV (updV (updV (updV (updV (updV (updV (updV (updV (updV (updV (updV (updV (updV (updV V 1 (.ref q1)) 2 (.ref q2)) 3 (.ref q3)) 4 (.ref q4)) 5 (.ref q5)) 6 (.ref q6)) 7 (.ref q7)) 8 (.ref q8)) 9 (.ref q9)) 10 (.ref q10)) 11 (.ref q11)) 12 (.ref q12)) 13 (.ref q13)) 14 (.ref q14)) 15 (.ref q15)) 16 (.ref q16)) 17 (.ref q17)) 18 (.ref q18)) 19 (.ref q19)) 20 (.ref q20)) 21 (.ref q21)) 32 (.ref q22)))) := jus ew_44
  have hk_w_44 := jk0 ew_44 hk_w_43
  have fr_w_44 := jfrW ew_44 fr_w_43 (fun b e hb _ => hb)
  refine j_blk 250 [(0, .ref a)] [.int (-1), .ref a] C k_c_Mo_init2_248_2 rfl ?_
  refine j_put C d_c_Mo_init2_250 fp_Mo_85 m_a_w_44 rfl rfl ?_
  refine jnv (fun w_45 ew_45 => ?_)
  have m_a_w_45 : w_45.1 a = some (.inr (10, (updV (updV (updV (updV (updV (updV (updV (updV (updV (updV (updV (updV (updV (updV (updV (updV (updV (updV (updV (updV (updV (updV (updV V 1 (.ref q1)) 2 (.ref q2)) 3 (.ref q3)) 4 (.ref q4)) 5 (.ref q5)) 6 (.ref q6)) 7 (.ref q7)) 8 (.ref q8)) 9 (.ref q9)) 10 (.ref q10)) 11 (.ref q11)) 12 (.ref q12)) 13 (.ref q13)) 14 (.ref q14)) 15 (.ref q15)) 16 (.ref q16)) 17 (.ref q17)) 18 (.ref q18)) 19 (.ref q19)) 20 (.ref q20)) 21 (.ref q21)) 32 (.ref q22)) 37 (.int (-1))))) := jus ew_45
  have hk_w_45 := jk0 ew_45 hk_w_44
  have fr_w_45 := jfrW ew_45 fr_w_44 (fun b e hb _ => hb)
  refine j_blk 256 [(0, .ref a)] [.int 6, .ref a] C k_c_Mo_init2_253_2 rfl ?_
  refine j_newa (n := 6) C Rm d_c_Mo_init2_256 rfl ac_int (by decide) (by decide) (by decide) (jroom hk_w_45.1 rfl) (jroom hk_w_45.2 rfl) (fun q23 f_q23 => ?_)
  refine jnv (fun w_46 ew_46 => ?_)
  have m_q23_w_46 : w_46.1 q23 = some (aI D 6 (fun _ => 0)) := jus ew_46
  have hk_w_46 := jk1 ew_46 hk_w_45
  have lt_q23 := jfrL fr_w_45 f_q23
  have fr_w_46 := jfrN ew_46 fr_w_45 f_q23
  have x_a_q23 := Nat.ne_of_lt (f_q23 _ _ m_a_w_45)
  have m_a_w_46 := jun ew_46 m_a_w_45 x_a_q23
  refine j_putF C hin d_c_Mo_init2_258 ff_Mo_89 m_a_w_46 rfl rfl ?_
  refine jnv (fun w_47 ew_47 => ?_)
  have m_a_w_47 : w_47.1 a = some (.inr (10, (updV (updV (updV (updV (updV (updV (updV (updV (updV (updV (updV (updV (updV (updV (updV (updV (updV (updV (updV (updV (updV (updV (updV (updV V 1 (.ref q1)) 2 (.ref q2)) 3 (.ref q3)) 4 (.ref q4)) 5 (.ref q5)) 6 (.ref q6)) 7 (.ref q7)) 8 (.ref q8)) 9 (.ref q9)) 10 (.ref q10)) 11 (.ref q11)) 12 (.ref q12)) 13 (.ref q13)) 14 (.ref q14)) 15 (.ref q15)) 16 (.ref q16)) 17 (.ref q17)) 18 (.ref q18)) 19 (.ref q19)) 20 (.ref q20)) 21 (.ref q21)) 32 (.ref q22)) 37 (.int (-1))) 38 (.ref q23)))) := jus ew_47
  have hk_w_47 := jk0 ew_47 hk_w_46
  have fr_w_47 := jfrW ew_47 fr_w_46 (fun b e hb _ => hb)
  refine j_blk 263 [(0, .ref a)] [.int 4, .ref a] C k_c_Mo_init2_261_2 rfl ?_
  refine j_newa (n := 4) C Rm d_c_Mo_init2_263 rfl ac_int (by decide) (by decide) (by decide) (jroom hk_w_47.1 rfl) (jroom hk_w_47.2 rfl) (fun q24 f_q24 => ?_)
  refine jnv (fun w_48 ew_48 => ?_)
  have m_q24_w_48 : w_48.1 q24 = some (aI D 4 (fun _ => 0)) := jus ew_48
  have hk_w_48 := jk1 ew_48 hk_w_47
  have lt_q24 := jfrL fr_w_47 f_q24
  have fr_w_48 := jfrN ew_48 fr_w_47 f_q24
  refine j_blk 268 [(0, .ref a)] [.int (-1), .int 0, .ref q24, .ref q24, .ref a] C k_c_Mo_init2_265_3 rfl ?_
  refine j_iast C d_c_Mo_init2_268 m_q24_w_48 (jin (by decide) (by decide)) ?_
  refine jnv (fun w_49 ew_49 => ?_)
  have m_q24_w_49 : w_49.1 q24 = some (aI D 4 (upd (fun _ => 0) 0 (-1))) := jus ew_49
  have hk_w_49 := jk0 ew_49 hk_w_48
  have fr_w_49 := jfrW ew_49 fr_w_48 (fun b _ _ he => Nat.ne_of_lt (lt_q24 b _ he))
  refine j_blk 272 [(0, .ref a)] [.int (-1), .int 1, .ref q24, .ref q24, .ref a] C k_c_Mo_init2_269_3 rfl ?_
  refine j_iast C d_c_Mo_init2_272 m_q24_w_49 (jin (by decide) (by decide)) ?_
  refine jnv (fun w_50 ew_50 => ?_)
  have m_q24_w_50 : w_50.1 q24 = some (aI D 4 (upd (upd (fun _ => 0) 0 (-1)) 1 (-1))) := jus ew_50
  have hk_w_50 := jk0 ew_50 hk_w_49
  have fr_w_50 := jfrW ew_50 fr_w_49 (fun b _ _ he => Nat.ne_of_lt (lt_q24 b _ he))
  refine j_blk 276 [(0, .ref a)] [.int (-1), .int 2, .ref q24, .ref q24, .ref a] C k_c_Mo_init2_273_3 rfl ?_
  refine j_iast C d_c_Mo_init2_276 m_q24_w_50 (jin (by decide) (by decide)) ?_
  refine jnv (fun w_51 ew_51 => ?_)
  have m_q24_w_51 : w_51.1 q24 = some (aI D 4 (upd (upd (upd (fun _ => 0) 0 (-1)) 1 (-1)) 2 (-1))) := jus ew_51
  have hk_w_51 := jk0 ew_51 hk_w_50
  have fr_w_51 := jfrW ew_51 fr_w_50 (fun b _ _ he => Nat.ne_of_lt (lt_q24 b _ he))
  refine j_blk 280 [(0, .ref a)] [.int (-1), .int 3, .ref q24, .ref q24, .ref a] C k_c_Mo_init2_277_3 rfl ?_
  refine j_iast C d_c_Mo_init2_280 m_q24_w_51 (jin (by decide) (by decide)) ?_
  refine jnv (fun w_52 ew_52 => ?_)
  have m_q24_w_52 : w_52.1 q24 = some (aI D 4 (upd (upd (upd (upd (fun _ => 0) 0 (-1)) 1 (-1)) 2 (-1)) 3 (-1))) := jus ew_52
  have hk_w_52 := jk0 ew_52 hk_w_51
  have fr_w_52 := jfrW ew_52 fr_w_51 (fun b _ _ he => Nat.ne_of_lt (lt_q24 b _ he))
  have x_a_q24 := Nat.ne_of_lt (f_q24 _ _ m_a_w_47)
  have m_a_w_48 := jun ew_48 m_a_w_47 x_a_q24
  have m_a_w_49 := jun ew_49 m_a_w_48 x_a_q24
  have m_a_w_50 := jun ew_50 m_a_w_49 x_a_q24
  have m_a_w_51 := jun ew_51 m_a_w_50 x_a_q24
  have m_a_w_52 := jun ew_52 m_a_w_51 x_a_q24
  refine j_putF C hin d_c_Mo_init2_281 ff_Mo_92 m_a_w_52 rfl rfl ?_
  refine jnv (fun w_53 ew_53 => ?_)
  have m_a_w_53 : w_53.1 a = some (.inr (10, (updV (updV (updV (updV (updV (updV (updV (updV (updV (updV (updV (updV (updV (updV (updV (updV (updV (updV (updV (updV (updV (updV (updV (updV (updV V 1 (.ref q1)) 2 (.ref q2)) 3 (.ref q3)) 4 (.ref q4)) 5 (.ref q5)) 6 (.ref q6)) 7 (.ref q7)) 8 (.ref q8)) 9 (.ref q9)) 10 (.ref q10)) 11 (.ref q11)) 12 (.ref q12)) 13 (.ref q13)) 14 (.ref q14)) 15 (.ref q15)) 16 (.ref q16)) 17 (.ref q17)) 18 (.ref q18)) 19 (.ref q19)) 20 (.ref q20)) 21 (.ref q21)) 32 (.ref q22)) 37 (.int (-1))) 38 (.ref q23)) 39 (.ref q24)))) := jus ew_53
  have hk_w_53 := jk0 ew_53 hk_w_52
  have fr_w_53 := jfrW ew_53 fr_w_52 (fun b e hb _ => hb)
  refine j_blk 286 [(0, .ref a)] [.int 4, .ref a] C k_c_Mo_init2_284_2 rfl ?_
  refine j_newa (n := 4) C Rm d_c_Mo_init2_286 rfl ac_int (by decide) (by decide) (by decide) (jroom hk_w_53.1 rfl) (jroom hk_w_53.2 rfl) (fun q25 f_q25 => ?_)
  refine jnv (fun w_54 ew_54 => ?_)
  have m_q25_w_54 : w_54.1 q25 = some (aI D 4 (fun _ => 0)) := jus ew_54
  have hk_w_54 := jk1 ew_54 hk_w_53
  have lt_q25 := jfrL fr_w_53 f_q25
  have fr_w_54 := jfrN ew_54 fr_w_53 f_q25
  have x_a_q25 := Nat.ne_of_lt (f_q25 _ _ m_a_w_53)
  have m_a_w_54 := jun ew_54 m_a_w_53 x_a_q25
  refine j_putF C hin d_c_Mo_init2_288 ff_Mo_95 m_a_w_54 rfl rfl ?_
  refine jnv (fun w_55 ew_55 => ?_)
  have m_a_w_55 : w_55.1 a = some (.inr (10, (updV (updV (updV (updV (updV (updV (updV (updV (updV (updV (updV (updV (updV (updV (updV (updV (updV (updV (updV (updV (updV (updV (updV (updV (updV (updV V 1 (.ref q1)) 2 (.ref q2)) 3 (.ref q3)) 4 (.ref q4)) 5 (.ref q5)) 6 (.ref q6)) 7 (.ref q7)) 8 (.ref q8)) 9 (.ref q9)) 10 (.ref q10)) 11 (.ref q11)) 12 (.ref q12)) 13 (.ref q13)) 14 (.ref q14)) 15 (.ref q15)) 16 (.ref q16)) 17 (.ref q17)) 18 (.ref q18)) 19 (.ref q19)) 20 (.ref q20)) 21 (.ref q21)) 32 (.ref q22)) 37 (.int (-1))) 38 (.ref q23)) 39 (.ref q24)) 40 (.ref q25)))) := jus ew_55
  have hk_w_55 := jk0 ew_55 hk_w_54
  have fr_w_55 := jfrW ew_55 fr_w_54 (fun b e hb _ => hb)
  refine j_blk 295 [(0, .ref a)] [.int 40, .int 4, .ref a] C k_c_Mo_init2_291_3 rfl ?_
  refine j_mn2 (t := 3) (t0 := 0) (n := 4) (k := 40) C Rm d_c_Mo_init2_295 (by decide) rfl rfl (by rw [sj_0]; exact ca_Mo_19) (by decide) (by decide) (by decide) (by decide) (by decide) (by decide) (jroom hk_w_55.1 rfl) (jroom hk_w_55.2 rfl) (fun q26 f_q26 => ?_)
  refine jnv (fun w_56 ew_56 => ?_)
  have m_q26_w_56 : w_56.1 q26 = some (aR D 3 4 (jro 4 (fun j => q26 + 1 + j))) := jm2o ew_56
  have r_q26 : ∀ j, j < 4 → w_56.1 (q26 + 1 + j) = some (aI D 40 (fun _ => 0)) := fun j hj => jm2i ew_56 hj
  have hk_w_56 := jkM ew_56 hk_w_55
  have lt_q26 := jfrL fr_w_55 f_q26
  have fr_w_56 := jfrM2 ew_56 fr_w_55 f_q26
  have m_a_w_56 := jm2p ew_56 f_q26 m_a_w_55
  refine j_putF C hin d_c_Mo_init2_299 ff_Mo_98 m_a_w_56 rfl rfl ?_
  refine jnv (fun w_57 ew_57 => ?_)
  have m_a_w_57 : w_57.1 a = some (.inr (10, (updV (updV (updV (updV (updV (updV (updV (updV (updV (updV (updV (updV (updV (updV (updV (updV (updV (updV (updV (updV (updV (updV (updV (updV (updV (updV (updV V 1 (.ref q1)) 2 (.ref q2)) 3 (.ref q3)) 4 (.ref q4)) 5 (.ref q5)) 6 (.ref q6)) 7 (.ref q7)) 8 (.ref q8)) 9 (.ref q9)) 10 (.ref q10)) 11 (.ref q11)) 12 (.ref q12)) 13 (.ref q13)) 14 (.ref q14)) 15 (.ref q15)) 16 (.ref q16)) 17 (.ref q17)) 18 (.ref q18)) 19 (.ref q19)) 20 (.ref q20)) 21 (.ref q21)) 32 (.ref q22)) 37 (.int (-1))) 38 (.ref q23)) 39 (.ref q24)) 40 (.ref q25)) 41 (.ref q26)))) := jus ew_57
  have hk_w_57 := jk0 ew_57 hk_w_56
  have fr_w_57 := jfrW ew_57 fr_w_56 (fun b e hb _ => hb)
  refine j_blk 305 [(0, .ref a)] [.int 40, .ref a] C k_c_Mo_init2_302_2 rfl ?_
  refine j_newa (n := 40) C Rm d_c_Mo_init2_305 rfl ac_int (by decide) (by decide) (by decide) (jroom hk_w_57.1 rfl) (jroom hk_w_57.2 rfl) (fun q27 f_q27 => ?_)
  refine jnv (fun w_58 ew_58 => ?_)
  have m_q27_w_58 : w_58.1 q27 = some (aI D 40 (fun _ => 0)) := jus ew_58
  have hk_w_58 := jk1 ew_58 hk_w_57
  have lt_q27 := jfrL fr_w_57 f_q27
  have fr_w_58 := jfrN ew_58 fr_w_57 f_q27
  have x_a_q27 := Nat.ne_of_lt (f_q27 _ _ m_a_w_57)
  have m_a_w_58 := jun ew_58 m_a_w_57 x_a_q27
  refine j_putF C hin d_c_Mo_init2_307 ff_Mo_101 m_a_w_58 rfl rfl ?_
  refine jnv (fun w_59 ew_59 => ?_)
  have m_a_w_59 : w_59.1 a = some (.inr (10, (updV (updV (updV (updV (updV (updV (updV (updV (updV (updV (updV (updV (updV (updV (updV (updV (updV (updV (updV (updV (updV (updV (updV (updV (updV (updV (updV (updV V 1 (.ref q1)) 2 (.ref q2)) 3 (.ref q3)) 4 (.ref q4)) 5 (.ref q5)) 6 (.ref q6)) 7 (.ref q7)) 8 (.ref q8)) 9 (.ref q9)) 10 (.ref q10)) 11 (.ref q11)) 12 (.ref q12)) 13 (.ref q13)) 14 (.ref q14)) 15 (.ref q15)) 16 (.ref q16)) 17 (.ref q17)) 18 (.ref q18)) 19 (.ref q19)) 20 (.ref q20)) 21 (.ref q21)) 32 (.ref q22)) 37 (.int (-1))) 38 (.ref q23)) 39 (.ref q24)) 40 (.ref q25)) 41 (.ref q26)) 42 (.ref q27)))) := jus ew_59
  have hk_w_59 := jk0 ew_59 hk_w_58
  have fr_w_59 := jfrW ew_59 fr_w_58 (fun b e hb _ => hb)
  refine j_blk 312 [(1, .int 0), (0, .ref a)] [] C k_c_Mo_init2_310_2 rfl ?_
  have m_q24_w_53 := jun ew_53 m_q24_w_52 (Ne.symm x_a_q24)
  have x_q24_q25 := Nat.ne_of_lt (f_q25 _ _ m_q24_w_53)
  have m_q24_w_54 := jun ew_54 m_q24_w_53 x_q24_q25
  have m_q24_w_55 := jun ew_55 m_q24_w_54 (Ne.symm x_a_q24)
  have m_q24_w_56 := jm2p ew_56 f_q26 m_q24_w_55
  have m_q24_w_57 := jun ew_57 m_q24_w_56 (Ne.symm x_a_q24)
  have x_q24_q27 := Nat.ne_of_lt (f_q27 _ _ m_q24_w_57)
  have m_q24_w_58 := jun ew_58 m_q24_w_57 x_q24_q27
  have m_q24_w_59 := jun ew_59 m_q24_w_58 (Ne.symm x_a_q24)
  have m_q22_w_44 := jun ew_44 m_q22_w_43 (Ne.symm x_a_q22)
  have m_q22_w_45 := jun ew_45 m_q22_w_44 (Ne.symm x_a_q22)
  have x_q22_q23 := Nat.ne_of_lt (f_q23 _ _ m_q22_w_45)
  have m_q22_w_46 := jun ew_46 m_q22_w_45 x_q22_q23
  have m_q22_w_47 := jun ew_47 m_q22_w_46 (Ne.symm x_a_q22)
  have x_q22_q24 := Nat.ne_of_lt (f_q24 _ _ m_q22_w_47)
  have m_q22_w_48 := jun ew_48 m_q22_w_47 x_q22_q24
  have m_q22_w_49 := jun ew_49 m_q22_w_48 x_q22_q24
  have m_q22_w_50 := jun ew_50 m_q22_w_49 x_q22_q24
  have m_q22_w_51 := jun ew_51 m_q22_w_50 x_q22_q24
  have m_q22_w_52 := jun ew_52 m_q22_w_51 x_q22_q24
  have m_q22_w_53 := jun ew_53 m_q22_w_52 (Ne.symm x_a_q22)
  have x_q22_q25 := Nat.ne_of_lt (f_q25 _ _ m_q22_w_53)
  have m_q22_w_54 := jun ew_54 m_q22_w_53 x_q22_q25
  have m_q22_w_55 := jun ew_55 m_q22_w_54 (Ne.symm x_a_q22)
  have m_q22_w_56 := jm2p ew_56 f_q26 m_q22_w_55
  have m_q22_w_57 := jun ew_57 m_q22_w_56 (Ne.symm x_a_q22)
  have x_q22_q27 := Nat.ne_of_lt (f_q27 _ _ m_q22_w_57)
  have m_q22_w_58 := jun ew_58 m_q22_w_57 x_q22_q27
  have m_q22_w_59 := jun ew_59 m_q22_w_58 (Ne.symm x_a_q22)
  have s_0 : jfr (fun b => b ≠ a ∧ b ≠ q24) w w_1 := jfrN ew_1 jfr0 f_q1
  have s_1 : jfr (fun b => b ≠ a ∧ b ≠ q24) w_1 w_2 := jfrW ew_2 jfr0 (fun b e hb _ => hb.1)
  have s_2 : jfr (fun b => b ≠ a ∧ b ≠ q24) w_2 w_3 := jfrN ew_3 jfr0 f_q2
  have s_3 : jfr (fun b => b ≠ a ∧ b ≠ q24) w_3 w_4 := jfrW ew_4 jfr0 (fun b e hb _ => hb.1)
  have s_4 : jfr (fun b => b ≠ a ∧ b ≠ q24) w_4 w_5 := jfrN ew_5 jfr0 f_q3
  have s_5 : jfr (fun b => b ≠ a ∧ b ≠ q24) w_5 w_6 := jfrW ew_6 jfr0 (fun b e hb _ => hb.1)
  have s_6 : jfr (fun b => b ≠ a ∧ b ≠ q24) w_6 w_7 := jfrM2 ew_7 jfr0 f_q4
  have s_7 : jfr (fun b => b ≠ a ∧ b ≠ q24) w_7 w_8 := jfrW ew_8 jfr0 (fun b e hb _ => hb.1)
  have s_8 : jfr (fun b => b ≠ a ∧ b ≠ q24) w_8 w_9 := jfrM2 ew_9 jfr0 f_q5
  have s_9 : jfr (fun b => b ≠ a ∧ b ≠ q24) w_9 w_10 := jfrW ew_10 jfr0 (fun b e hb _ => hb.1)
  have s_10 : jfr (fun b => b ≠ a ∧ b ≠ q24) w_10 w_11 := jfrM2 ew_11 jfr0 f_q6
  have s_11 : jfr (fun b => b ≠ a ∧ b ≠ q24) w_11 w_12 := jfrW ew_12 jfr0 (fun b e hb _ => hb.1)
  have s_12 : jfr (fun b => b ≠ a ∧ b ≠ q24) w_12 w_13 := jfrM2 ew_13 jfr0 f_q7
  have s_13 : jfr (fun b => b ≠ a ∧ b ≠ q24) w_13 w_14 := jfrW ew_14 jfr0 (fun b e hb _ => hb.1)
  have s_14 : jfr (fun b => b ≠ a ∧ b ≠ q24) w_14 w_15 := jfrM2 ew_15 jfr0 f_q8
  have s_15 : jfr (fun b => b ≠ a ∧ b ≠ q24) w_15 w_16 := jfrW ew_16 jfr0 (fun b e hb _ => hb.1)
  have s_16 : jfr (fun b => b ≠ a ∧ b ≠ q24) w_16 w_17 := jfrM2 ew_17 jfr0 f_q9
  have s_17 : jfr (fun b => b ≠ a ∧ b ≠ q24) w_17 w_18 := jfrW ew_18 jfr0 (fun b e hb _ => hb.1)
  have s_18 : jfr (fun b => b ≠ a ∧ b ≠ q24) w_18 w_19 := jfrM2 ew_19 jfr0 f_q10
  have s_19 : jfr (fun b => b ≠ a ∧ b ≠ q24) w_19 w_20 := jfrW ew_20 jfr0 (fun b e hb _ => hb.1)
  have s_20 : jfr (fun b => b ≠ a ∧ b ≠ q24) w_20 w_21 := jfrM2 ew_21 jfr0 f_q11
  have s_21 : jfr (fun b => b ≠ a ∧ b ≠ q24) w_21 w_22 := jfrW ew_22 jfr0 (fun b e hb _ => hb.1)
  have s_22 : jfr (fun b => b ≠ a ∧ b ≠ q24) w_22 w_23 := jfrM2 ew_23 jfr0 f_q12
  have s_23 : jfr (fun b => b ≠ a ∧ b ≠ q24) w_23 w_24 := jfrW ew_24 jfr0 (fun b e hb _ => hb.1)
  have s_24 : jfr (fun b => b ≠ a ∧ b ≠ q24) w_24 w_25 := jfrM2 ew_25 jfr0 f_q13
  have s_25 : jfr (fun b => b ≠ a ∧ b ≠ q24) w_25 w_26 := jfrW ew_26 jfr0 (fun b e hb _ => hb.1)
  have s_26 : jfr (fun b => b ≠ a ∧ b ≠ q24) w_26 w_27 := jfrM2 ew_27 jfr0 f_q14
  have s_27 : jfr (fun b => b ≠ a ∧ b ≠ q24) w_27 w_28 := jfrW ew_28 jfr0 (fun b e hb _ => hb.1)
  have s_28 : jfr (fun b => b ≠ a ∧ b ≠ q24) w_28 w_29 := jfrM2 ew_29 jfr0 f_q15
  have s_29 : jfr (fun b => b ≠ a ∧ b ≠ q24) w_29 w_30 := jfrW ew_30 jfr0 (fun b e hb _ => hb.1)
  have s_30 : jfr (fun b => b ≠ a ∧ b ≠ q24) w_30 w_31 := jfrM2 ew_31 jfr0 f_q16
  have s_31 : jfr (fun b => b ≠ a ∧ b ≠ q24) w_31 w_32 := jfrW ew_32 jfr0 (fun b e hb _ => hb.1)
  have s_32 : jfr (fun b => b ≠ a ∧ b ≠ q24) w_32 w_33 := jfrN ew_33 jfr0 f_q17
  have s_33 : jfr (fun b => b ≠ a ∧ b ≠ q24) w_33 w_34 := jfrW ew_34 jfr0 (fun b e hb _ => hb.1)
  have s_34 : jfr (fun b => b ≠ a ∧ b ≠ q24) w_34 w_35 := jfrM2 ew_35 jfr0 f_q18
  have s_35 : jfr (fun b => b ≠ a ∧ b ≠ q24) w_35 w_36 := jfrW ew_36 jfr0 (fun b e hb _ => hb.1)
  have s_36 : jfr (fun b => b ≠ a ∧ b ≠ q24) w_36 w_37 := jfrM2 ew_37 jfr0 f_q19
  have s_37 : jfr (fun b => b ≠ a ∧ b ≠ q24) w_37 w_38 := jfrW ew_38 jfr0 (fun b e hb _ => hb.1)
  have s_38 : jfr (fun b => b ≠ a ∧ b ≠ q24) w_38 w_39 := jfrM3 ew_39 jfr0 f_q20
  have s_39 : jfr (fun b => b ≠ a ∧ b ≠ q24) w_39 w_40 := jfrW ew_40 jfr0 (fun b e hb _ => hb.1)
  have s_40 : jfr (fun b => b ≠ a ∧ b ≠ q24) w_40 w_41 := jfrN ew_41 jfr0 f_q21
  have s_41 : jfr (fun b => b ≠ a ∧ b ≠ q24) w_41 w_42 := jfrW ew_42 jfr0 (fun b e hb _ => hb.1)
  have s_42 : jfr (fun b => b ≠ a ∧ b ≠ q24) w_42 w_43 := jfrN ew_43 jfr0 f_q22
  have s_43 : jfr (fun b => b ≠ a ∧ b ≠ q24) w_43 w_44 := jfrW ew_44 jfr0 (fun b e hb _ => hb.1)
  have s_44 : jfr (fun b => b ≠ a ∧ b ≠ q24) w_44 w_45 := jfrW ew_45 jfr0 (fun b e hb _ => hb.1)
  have s_45 : jfr (fun b => b ≠ a ∧ b ≠ q24) w_45 w_46 := jfrN ew_46 jfr0 f_q23
  have s_46 : jfr (fun b => b ≠ a ∧ b ≠ q24) w_46 w_47 := jfrW ew_47 jfr0 (fun b e hb _ => hb.1)
  have s_47 : jfr (fun b => b ≠ a ∧ b ≠ q24) w_47 w_48 := jfrN ew_48 jfr0 f_q24
  have s_48 : jfr (fun b => b ≠ a ∧ b ≠ q24) w_48 w_49 := jfrW ew_49 jfr0 (fun b e hb _ => hb.2)
  have s_49 : jfr (fun b => b ≠ a ∧ b ≠ q24) w_49 w_50 := jfrW ew_50 jfr0 (fun b e hb _ => hb.2)
  have s_50 : jfr (fun b => b ≠ a ∧ b ≠ q24) w_50 w_51 := jfrW ew_51 jfr0 (fun b e hb _ => hb.2)
  have s_51 : jfr (fun b => b ≠ a ∧ b ≠ q24) w_51 w_52 := jfrW ew_52 jfr0 (fun b e hb _ => hb.2)
  have s_52 : jfr (fun b => b ≠ a ∧ b ≠ q24) w_52 w_53 := jfrW ew_53 jfr0 (fun b e hb _ => hb.1)
  have s_53 : jfr (fun b => b ≠ a ∧ b ≠ q24) w_53 w_54 := jfrN ew_54 jfr0 f_q25
  have s_54 : jfr (fun b => b ≠ a ∧ b ≠ q24) w_54 w_55 := jfrW ew_55 jfr0 (fun b e hb _ => hb.1)
  have s_55 : jfr (fun b => b ≠ a ∧ b ≠ q24) w_55 w_56 := jfrM2 ew_56 jfr0 f_q26
  have s_56 : jfr (fun b => b ≠ a ∧ b ≠ q24) w_56 w_57 := jfrW ew_57 jfr0 (fun b e hb _ => hb.1)
  have s_57 : jfr (fun b => b ≠ a ∧ b ≠ q24) w_57 w_58 := jfrN ew_58 jfr0 f_q27
  have s_58 : jfr (fun b => b ≠ a ∧ b ≠ q24) w_58 w_59 := jfrW ew_59 jfr0 (fun b e hb _ => hb.1)
  have z_59 : jfr (fun b => b ≠ a ∧ b ≠ q24) w_59 w_59 := jfr0
  have z_58 : jfr (fun b => b ≠ a ∧ b ≠ q24) w_58 w_59 := jfrT s_58 z_59 (fun _ _ hb _ => hb)
  have z_57 : jfr (fun b => b ≠ a ∧ b ≠ q24) w_57 w_59 := jfrT s_57 z_58 (fun _ _ hb _ => hb)
  have z_56 : jfr (fun b => b ≠ a ∧ b ≠ q24) w_56 w_59 := jfrT s_56 z_57 (fun _ _ hb _ => hb)
  have z_55 : jfr (fun b => b ≠ a ∧ b ≠ q24) w_55 w_59 := jfrT s_55 z_56 (fun _ _ hb _ => hb)
  have z_54 : jfr (fun b => b ≠ a ∧ b ≠ q24) w_54 w_59 := jfrT s_54 z_55 (fun _ _ hb _ => hb)
  have z_53 : jfr (fun b => b ≠ a ∧ b ≠ q24) w_53 w_59 := jfrT s_53 z_54 (fun _ _ hb _ => hb)
  have z_52 : jfr (fun b => b ≠ a ∧ b ≠ q24) w_52 w_59 := jfrT s_52 z_53 (fun _ _ hb _ => hb)
  have z_51 : jfr (fun b => b ≠ a ∧ b ≠ q24) w_51 w_59 := jfrT s_51 z_52 (fun _ _ hb _ => hb)
  have z_50 : jfr (fun b => b ≠ a ∧ b ≠ q24) w_50 w_59 := jfrT s_50 z_51 (fun _ _ hb _ => hb)
  have z_49 : jfr (fun b => b ≠ a ∧ b ≠ q24) w_49 w_59 := jfrT s_49 z_50 (fun _ _ hb _ => hb)
  have z_48 : jfr (fun b => b ≠ a ∧ b ≠ q24) w_48 w_59 := jfrT s_48 z_49 (fun _ _ hb _ => hb)
  have z_47 : jfr (fun b => b ≠ a ∧ b ≠ q24) w_47 w_59 := jfrT s_47 z_48 (fun _ _ hb _ => hb)
  have z_46 : jfr (fun b => b ≠ a ∧ b ≠ q24) w_46 w_59 := jfrT s_46 z_47 (fun _ _ hb _ => hb)
  have z_45 : jfr (fun b => b ≠ a ∧ b ≠ q24) w_45 w_59 := jfrT s_45 z_46 (fun _ _ hb _ => hb)
  have z_44 : jfr (fun b => b ≠ a ∧ b ≠ q24) w_44 w_59 := jfrT s_44 z_45 (fun _ _ hb _ => hb)
  have z_43 : jfr (fun b => b ≠ a ∧ b ≠ q24) w_43 w_59 := jfrT s_43 z_44 (fun _ _ hb _ => hb)
  have z_42 : jfr (fun b => b ≠ a ∧ b ≠ q24) w_42 w_59 := jfrT s_42 z_43 (fun _ _ hb _ => hb)
  have z_41 : jfr (fun b => b ≠ a ∧ b ≠ q24) w_41 w_59 := jfrT s_41 z_42 (fun _ _ hb _ => hb)
  have z_40 : jfr (fun b => b ≠ a ∧ b ≠ q24) w_40 w_59 := jfrT s_40 z_41 (fun _ _ hb _ => hb)
  have z_39 : jfr (fun b => b ≠ a ∧ b ≠ q24) w_39 w_59 := jfrT s_39 z_40 (fun _ _ hb _ => hb)
  have z_38 : jfr (fun b => b ≠ a ∧ b ≠ q24) w_38 w_59 := jfrT s_38 z_39 (fun _ _ hb _ => hb)
  have z_37 : jfr (fun b => b ≠ a ∧ b ≠ q24) w_37 w_59 := jfrT s_37 z_38 (fun _ _ hb _ => hb)
  have z_36 : jfr (fun b => b ≠ a ∧ b ≠ q24) w_36 w_59 := jfrT s_36 z_37 (fun _ _ hb _ => hb)
  have z_35 : jfr (fun b => b ≠ a ∧ b ≠ q24) w_35 w_59 := jfrT s_35 z_36 (fun _ _ hb _ => hb)
  have z_34 : jfr (fun b => b ≠ a ∧ b ≠ q24) w_34 w_59 := jfrT s_34 z_35 (fun _ _ hb _ => hb)
  have z_33 : jfr (fun b => b ≠ a ∧ b ≠ q24) w_33 w_59 := jfrT s_33 z_34 (fun _ _ hb _ => hb)
  have z_32 : jfr (fun b => b ≠ a ∧ b ≠ q24) w_32 w_59 := jfrT s_32 z_33 (fun _ _ hb _ => hb)
  have z_31 : jfr (fun b => b ≠ a ∧ b ≠ q24) w_31 w_59 := jfrT s_31 z_32 (fun _ _ hb _ => hb)
  have z_30 : jfr (fun b => b ≠ a ∧ b ≠ q24) w_30 w_59 := jfrT s_30 z_31 (fun _ _ hb _ => hb)
  have z_29 : jfr (fun b => b ≠ a ∧ b ≠ q24) w_29 w_59 := jfrT s_29 z_30 (fun _ _ hb _ => hb)
  have z_28 : jfr (fun b => b ≠ a ∧ b ≠ q24) w_28 w_59 := jfrT s_28 z_29 (fun _ _ hb _ => hb)
  have z_27 : jfr (fun b => b ≠ a ∧ b ≠ q24) w_27 w_59 := jfrT s_27 z_28 (fun _ _ hb _ => hb)
  have z_26 : jfr (fun b => b ≠ a ∧ b ≠ q24) w_26 w_59 := jfrT s_26 z_27 (fun _ _ hb _ => hb)
  have z_25 : jfr (fun b => b ≠ a ∧ b ≠ q24) w_25 w_59 := jfrT s_25 z_26 (fun _ _ hb _ => hb)
  have z_24 : jfr (fun b => b ≠ a ∧ b ≠ q24) w_24 w_59 := jfrT s_24 z_25 (fun _ _ hb _ => hb)
  have z_23 : jfr (fun b => b ≠ a ∧ b ≠ q24) w_23 w_59 := jfrT s_23 z_24 (fun _ _ hb _ => hb)
  have z_22 : jfr (fun b => b ≠ a ∧ b ≠ q24) w_22 w_59 := jfrT s_22 z_23 (fun _ _ hb _ => hb)
  have z_21 : jfr (fun b => b ≠ a ∧ b ≠ q24) w_21 w_59 := jfrT s_21 z_22 (fun _ _ hb _ => hb)
  have z_20 : jfr (fun b => b ≠ a ∧ b ≠ q24) w_20 w_59 := jfrT s_20 z_21 (fun _ _ hb _ => hb)
  have z_19 : jfr (fun b => b ≠ a ∧ b ≠ q24) w_19 w_59 := jfrT s_19 z_20 (fun _ _ hb _ => hb)
  have z_18 : jfr (fun b => b ≠ a ∧ b ≠ q24) w_18 w_59 := jfrT s_18 z_19 (fun _ _ hb _ => hb)
  have z_17 : jfr (fun b => b ≠ a ∧ b ≠ q24) w_17 w_59 := jfrT s_17 z_18 (fun _ _ hb _ => hb)
  have z_16 : jfr (fun b => b ≠ a ∧ b ≠ q24) w_16 w_59 := jfrT s_16 z_17 (fun _ _ hb _ => hb)
  have z_15 : jfr (fun b => b ≠ a ∧ b ≠ q24) w_15 w_59 := jfrT s_15 z_16 (fun _ _ hb _ => hb)
  have z_14 : jfr (fun b => b ≠ a ∧ b ≠ q24) w_14 w_59 := jfrT s_14 z_15 (fun _ _ hb _ => hb)
  have z_13 : jfr (fun b => b ≠ a ∧ b ≠ q24) w_13 w_59 := jfrT s_13 z_14 (fun _ _ hb _ => hb)
  have z_12 : jfr (fun b => b ≠ a ∧ b ≠ q24) w_12 w_59 := jfrT s_12 z_13 (fun _ _ hb _ => hb)
  have z_11 : jfr (fun b => b ≠ a ∧ b ≠ q24) w_11 w_59 := jfrT s_11 z_12 (fun _ _ hb _ => hb)
  have z_10 : jfr (fun b => b ≠ a ∧ b ≠ q24) w_10 w_59 := jfrT s_10 z_11 (fun _ _ hb _ => hb)
  have z_9 : jfr (fun b => b ≠ a ∧ b ≠ q24) w_9 w_59 := jfrT s_9 z_10 (fun _ _ hb _ => hb)
  have z_8 : jfr (fun b => b ≠ a ∧ b ≠ q24) w_8 w_59 := jfrT s_8 z_9 (fun _ _ hb _ => hb)
  have z_7 : jfr (fun b => b ≠ a ∧ b ≠ q24) w_7 w_59 := jfrT s_7 z_8 (fun _ _ hb _ => hb)
  have z_6 : jfr (fun b => b ≠ a ∧ b ≠ q24) w_6 w_59 := jfrT s_6 z_7 (fun _ _ hb _ => hb)
  have z_5 : jfr (fun b => b ≠ a ∧ b ≠ q24) w_5 w_59 := jfrT s_5 z_6 (fun _ _ hb _ => hb)
  have z_4 : jfr (fun b => b ≠ a ∧ b ≠ q24) w_4 w_59 := jfrT s_4 z_5 (fun _ _ hb _ => hb)
  have z_3 : jfr (fun b => b ≠ a ∧ b ≠ q24) w_3 w_59 := jfrT s_3 z_4 (fun _ _ hb _ => hb)
  have z_2 : jfr (fun b => b ≠ a ∧ b ≠ q24) w_2 w_59 := jfrT s_2 z_3 (fun _ _ hb _ => hb)
  have z_1 : jfr (fun b => b ≠ a ∧ b ≠ q24) w_1 w_59 := jfrT s_1 z_2 (fun _ _ hb _ => hb)
  have z_0 : jfr (fun b => b ≠ a ∧ b ≠ q24) w w_59 := jfrT s_0 z_1 (fun _ _ hb _ => hb)
  have o_0 : q1 + 1 ≤ q2 := by have h9 := jfrL s_1 f_q2 _ _ m_q1_w_1; omega
  have o_1 : q2 + 1 ≤ q3 := by have h9 := jfrL s_3 f_q3 _ _ m_q2_w_3; omega
  have o_2 : q3 + 1 ≤ q4 := by have h9 := jfrL s_5 f_q4 _ _ m_q3_w_5; omega
  have o_3 : q4 + 7 ≤ q5 := by have h9 := jfrL s_7 f_q5 _ _ (r_q4 5 (by decide)); omega
  have o_4 : q5 + 7 ≤ q6 := by have h9 := jfrL s_9 f_q6 _ _ (r_q5 5 (by decide)); omega
  have o_5 : q6 + 7 ≤ q7 := by have h9 := jfrL s_11 f_q7 _ _ (r_q6 5 (by decide)); omega
  have o_6 : q7 + 7 ≤ q8 := by have h9 := jfrL s_13 f_q8 _ _ (r_q7 5 (by decide)); omega
  have o_7 : q8 + 7 ≤ q9 := by have h9 := jfrL s_15 f_q9 _ _ (r_q8 5 (by decide)); omega
  have o_8 : q9 + 7 ≤ q10 := by have h9 := jfrL s_17 f_q10 _ _ (r_q9 5 (by decide)); omega
  have o_9 : q10 + 7 ≤ q11 := by have h9 := jfrL s_19 f_q11 _ _ (r_q10 5 (by decide)); omega
  have o_10 : q11 + 7 ≤ q12 := by have h9 := jfrL s_21 f_q12 _ _ (r_q11 5 (by decide)); omega
  have o_11 : q12 + 7 ≤ q13 := by have h9 := jfrL s_23 f_q13 _ _ (r_q12 5 (by decide)); omega
  have o_12 : q13 + 7 ≤ q14 := by have h9 := jfrL s_25 f_q14 _ _ (r_q13 5 (by decide)); omega
  have o_13 : q14 + 7 ≤ q15 := by have h9 := jfrL s_27 f_q15 _ _ (r_q14 5 (by decide)); omega
  have o_14 : q15 + 7 ≤ q16 := by have h9 := jfrL s_29 f_q16 _ _ (r_q15 5 (by decide)); omega
  have o_15 : q16 + 7 ≤ q17 := by have h9 := jfrL s_31 f_q17 _ _ (r_q16 5 (by decide)); omega
  have o_16 : q17 + 1 ≤ q18 := by have h9 := jfrL s_33 f_q18 _ _ m_q17_w_33; omega
  have o_17 : q18 + 7 ≤ q19 := by have h9 := jfrL s_35 f_q19 _ _ (r_q18 5 (by decide)); omega
  have o_18 : q19 + 7 ≤ q20 := by have h9 := jfrL s_37 f_q20 _ _ (r_q19 5 (by decide)); omega
  have o_19 : q20 + 67 ≤ q21 := by have h9 := jfrL s_39 f_q21 _ _ (r2_q20 5 (by decide) 9 (by decide)); omega
  have o_20 : q21 + 1 ≤ q22 := by have h9 := jfrL s_41 f_q22 _ _ m_q21_w_41; omega
  have o_21 : q22 + 1 ≤ q23 := by have h9 := jfrL (jfrT s_43 s_44 (fun _ _ hb _ => hb)) f_q23 _ _ m_q22_w_43; omega
  have o_22 : q23 + 1 ≤ q24 := by have h9 := jfrL s_46 f_q24 _ _ m_q23_w_46; omega
  have o_23 : q24 + 1 ≤ q25 := by have h9 := jfrL (jfrT (jfrT (jfrT (jfrT s_48 s_49 (fun _ _ hb _ => hb)) s_50 (fun _ _ hb _ => hb)) s_51 (fun _ _ hb _ => hb)) s_52 (fun _ _ hb _ => hb)) f_q25 _ _ m_q24_w_48; omega
  have o_24 : q25 + 1 ≤ q26 := by have h9 := jfrL s_54 f_q26 _ _ m_q25_w_54; omega
  have o_25 : q26 + 5 ≤ q27 := by have h9 := jfrL s_56 f_q27 _ _ (r_q26 3 (by decide)); omega
  have o_a : a < q1 := f_q1 _ _ ha
  have b_22 : q23 + 1 ≤ q24 := o_22
  have b_21 : q22 + 1 ≤ q24 := by omega
  have b_20 : q21 + 1 ≤ q24 := by omega
  have b_19 : q20 + 67 ≤ q24 := by omega
  have b_18 : q19 + 7 ≤ q24 := by omega
  have b_17 : q18 + 7 ≤ q24 := by omega
  have b_16 : q17 + 1 ≤ q24 := by omega
  have b_15 : q16 + 7 ≤ q24 := by omega
  have b_14 : q15 + 7 ≤ q24 := by omega
  have b_13 : q14 + 7 ≤ q24 := by omega
  have b_12 : q13 + 7 ≤ q24 := by omega
  have b_11 : q12 + 7 ≤ q24 := by omega
  have b_10 : q11 + 7 ≤ q24 := by omega
  have b_9 : q10 + 7 ≤ q24 := by omega
  have b_8 : q9 + 7 ≤ q24 := by omega
  have b_7 : q8 + 7 ≤ q24 := by omega
  have b_6 : q7 + 7 ≤ q24 := by omega
  have b_5 : q6 + 7 ≤ q24 := by omega
  have b_4 : q5 + 7 ≤ q24 := by omega
  have b_3 : q4 + 7 ≤ q24 := by omega
  have b_2 : q3 + 1 ≤ q24 := by omega
  have b_1 : q2 + 1 ≤ q24 := by omega
  have b_0 : q1 + 1 ≤ q24 := by omega
  have b_24 : q24 + 1 ≤ q25 := o_23
  have b_25 : q24 + 1 ≤ q26 := by omega
  have b_26 : q24 + 1 ≤ q27 := by omega
  have g_0 : a < q1 := o_a
  have g_1 : a < q2 := Nat.lt_of_lt_of_le (Nat.lt_of_lt_of_le g_0 (Nat.le_add_right _ _)) o_0
  have g_2 : a < q3 := Nat.lt_of_lt_of_le (Nat.lt_of_lt_of_le g_1 (Nat.le_add_right _ _)) o_1
  have g_3 : a < q4 := Nat.lt_of_lt_of_le (Nat.lt_of_lt_of_le g_2 (Nat.le_add_right _ _)) o_2
  have g_4 : a < q5 := Nat.lt_of_lt_of_le (Nat.lt_of_lt_of_le g_3 (Nat.le_add_right _ _)) o_3
  have g_5 : a < q6 := Nat.lt_of_lt_of_le (Nat.lt_of_lt_of_le g_4 (Nat.le_add_right _ _)) o_4
  have g_6 : a < q7 := Nat.lt_of_lt_of_le (Nat.lt_of_lt_of_le g_5 (Nat.le_add_right _ _)) o_5
  have g_7 : a < q8 := Nat.lt_of_lt_of_le (Nat.lt_of_lt_of_le g_6 (Nat.le_add_right _ _)) o_6
  have g_8 : a < q9 := Nat.lt_of_lt_of_le (Nat.lt_of_lt_of_le g_7 (Nat.le_add_right _ _)) o_7
  have g_9 : a < q10 := Nat.lt_of_lt_of_le (Nat.lt_of_lt_of_le g_8 (Nat.le_add_right _ _)) o_8
  have g_10 : a < q11 := Nat.lt_of_lt_of_le (Nat.lt_of_lt_of_le g_9 (Nat.le_add_right _ _)) o_9
  have g_11 : a < q12 := Nat.lt_of_lt_of_le (Nat.lt_of_lt_of_le g_10 (Nat.le_add_right _ _)) o_10
  have g_12 : a < q13 := Nat.lt_of_lt_of_le (Nat.lt_of_lt_of_le g_11 (Nat.le_add_right _ _)) o_11
  have g_13 : a < q14 := Nat.lt_of_lt_of_le (Nat.lt_of_lt_of_le g_12 (Nat.le_add_right _ _)) o_12
  have g_14 : a < q15 := Nat.lt_of_lt_of_le (Nat.lt_of_lt_of_le g_13 (Nat.le_add_right _ _)) o_13
  have g_15 : a < q16 := Nat.lt_of_lt_of_le (Nat.lt_of_lt_of_le g_14 (Nat.le_add_right _ _)) o_14
  have g_16 : a < q17 := Nat.lt_of_lt_of_le (Nat.lt_of_lt_of_le g_15 (Nat.le_add_right _ _)) o_15
  have g_17 : a < q18 := Nat.lt_of_lt_of_le (Nat.lt_of_lt_of_le g_16 (Nat.le_add_right _ _)) o_16
  have g_18 : a < q19 := Nat.lt_of_lt_of_le (Nat.lt_of_lt_of_le g_17 (Nat.le_add_right _ _)) o_17
  have g_19 : a < q20 := Nat.lt_of_lt_of_le (Nat.lt_of_lt_of_le g_18 (Nat.le_add_right _ _)) o_18
  have g_20 : a < q21 := Nat.lt_of_lt_of_le (Nat.lt_of_lt_of_le g_19 (Nat.le_add_right _ _)) o_19
  have g_21 : a < q22 := Nat.lt_of_lt_of_le (Nat.lt_of_lt_of_le g_20 (Nat.le_add_right _ _)) o_20
  have g_22 : a < q23 := Nat.lt_of_lt_of_le (Nat.lt_of_lt_of_le g_21 (Nat.le_add_right _ _)) o_21
  have g_23 : a < q24 := Nat.lt_of_lt_of_le (Nat.lt_of_lt_of_le g_22 (Nat.le_add_right _ _)) o_22
  have g_24 : a < q25 := Nat.lt_of_lt_of_le (Nat.lt_of_lt_of_le g_23 (Nat.le_add_right _ _)) o_23
  have g_25 : a < q26 := Nat.lt_of_lt_of_le (Nat.lt_of_lt_of_le g_24 (Nat.le_add_right _ _)) o_24
  have g_26 : a < q27 := Nat.lt_of_lt_of_le (Nat.lt_of_lt_of_le g_25 (Nat.le_add_right _ _)) o_25
  have p_20 : q21 + 1 ≤ q22 := o_20
  have p_19 : q20 + 67 ≤ q22 := by omega
  have p_18 : q19 + 7 ≤ q22 := by omega
  have p_17 : q18 + 7 ≤ q22 := by omega
  have p_16 : q17 + 1 ≤ q22 := by omega
  have p_15 : q16 + 7 ≤ q22 := by omega
  have p_14 : q15 + 7 ≤ q22 := by omega
  have p_13 : q14 + 7 ≤ q22 := by omega
  have p_12 : q13 + 7 ≤ q22 := by omega
  have p_11 : q12 + 7 ≤ q22 := by omega
  have p_10 : q11 + 7 ≤ q22 := by omega
  have p_9 : q10 + 7 ≤ q22 := by omega
  have p_8 : q9 + 7 ≤ q22 := by omega
  have p_7 : q8 + 7 ≤ q22 := by omega
  have p_6 : q7 + 7 ≤ q22 := by omega
  have p_5 : q6 + 7 ≤ q22 := by omega
  have p_4 : q5 + 7 ≤ q22 := by omega
  have p_3 : q4 + 7 ≤ q22 := by omega
  have p_2 : q3 + 1 ≤ q22 := by omega
  have p_1 : q2 + 1 ≤ q22 := by omega
  have p_0 : q1 + 1 ≤ q22 := by omega
  have p_22 : q22 + 1 ≤ q23 := o_21
  have p_23 : q22 + 1 ≤ q24 := by omega
  have p_24 : q22 + 1 ≤ q25 := by omega
  have p_25 : q22 + 1 ≤ q26 := by omega
  have p_26 : q22 + 1 ≤ q27 := by omega
  have e_0 := (z_1 _ _ m_q1_w_1).1 ⟨by omega, by omega⟩
  have e_1 := (z_3 _ _ m_q2_w_3).1 ⟨by omega, by omega⟩
  have e_2 := (z_5 _ _ m_q3_w_5).1 ⟨by omega, by omega⟩
  have e_3 := (z_7 _ _ m_q4_w_7).1 ⟨by omega, by omega⟩
  have r_3 : ∀ j, j < 6 → w_59.1 (q4 + 1 + j) = some (aI D 16 (fun _ => 0)) := fun j hj => (z_7 _ _ (r_q4 j hj)).1 ⟨by omega, by omega⟩
  have e_4 := (z_9 _ _ m_q5_w_9).1 ⟨by omega, by omega⟩
  have r_4 : ∀ j, j < 6 → w_59.1 (q5 + 1 + j) = some (aI D 16 (fun _ => 0)) := fun j hj => (z_9 _ _ (r_q5 j hj)).1 ⟨by omega, by omega⟩
  have e_5 := (z_11 _ _ m_q6_w_11).1 ⟨by omega, by omega⟩
  have r_5 : ∀ j, j < 6 → w_59.1 (q6 + 1 + j) = some (aI D 16 (fun _ => 0)) := fun j hj => (z_11 _ _ (r_q6 j hj)).1 ⟨by omega, by omega⟩
  have e_6 := (z_13 _ _ m_q7_w_13).1 ⟨by omega, by omega⟩
  have r_6 : ∀ j, j < 6 → w_59.1 (q7 + 1 + j) = some (aI D 16 (fun _ => 0)) := fun j hj => (z_13 _ _ (r_q7 j hj)).1 ⟨by omega, by omega⟩
  have e_7 := (z_15 _ _ m_q8_w_15).1 ⟨by omega, by omega⟩
  have r_7 : ∀ j, j < 6 → w_59.1 (q8 + 1 + j) = some (aI D 16 (fun _ => 0)) := fun j hj => (z_15 _ _ (r_q8 j hj)).1 ⟨by omega, by omega⟩
  have e_8 := (z_17 _ _ m_q9_w_17).1 ⟨by omega, by omega⟩
  have r_8 : ∀ j, j < 6 → w_59.1 (q9 + 1 + j) = some (aI D 16 (fun _ => 0)) := fun j hj => (z_17 _ _ (r_q9 j hj)).1 ⟨by omega, by omega⟩
  have e_9 := (z_19 _ _ m_q10_w_19).1 ⟨by omega, by omega⟩
  have r_9 : ∀ j, j < 6 → w_59.1 (q10 + 1 + j) = some (aI D 16 (fun _ => 0)) := fun j hj => (z_19 _ _ (r_q10 j hj)).1 ⟨by omega, by omega⟩
  have e_10 := (z_21 _ _ m_q11_w_21).1 ⟨by omega, by omega⟩
  have r_10 : ∀ j, j < 6 → w_59.1 (q11 + 1 + j) = some (aI D 120 (fun _ => 0)) := fun j hj => (z_21 _ _ (r_q11 j hj)).1 ⟨by omega, by omega⟩
  have e_11 := (z_23 _ _ m_q12_w_23).1 ⟨by omega, by omega⟩
  have r_11 : ∀ j, j < 6 → w_59.1 (q12 + 1 + j) = some (aI D 120 (fun _ => 0)) := fun j hj => (z_23 _ _ (r_q12 j hj)).1 ⟨by omega, by omega⟩
  have e_12 := (z_25 _ _ m_q13_w_25).1 ⟨by omega, by omega⟩
  have r_12 : ∀ j, j < 6 → w_59.1 (q13 + 1 + j) = some (aI D 120 (fun _ => 0)) := fun j hj => (z_25 _ _ (r_q13 j hj)).1 ⟨by omega, by omega⟩
  have e_13 := (z_27 _ _ m_q14_w_27).1 ⟨by omega, by omega⟩
  have r_13 : ∀ j, j < 6 → w_59.1 (q14 + 1 + j) = some (aI D 120 (fun _ => 0)) := fun j hj => (z_27 _ _ (r_q14 j hj)).1 ⟨by omega, by omega⟩
  have e_14 := (z_29 _ _ m_q15_w_29).1 ⟨by omega, by omega⟩
  have r_14 : ∀ j, j < 6 → w_59.1 (q15 + 1 + j) = some (aI D 120 (fun _ => 0)) := fun j hj => (z_29 _ _ (r_q15 j hj)).1 ⟨by omega, by omega⟩
  have e_15 := (z_31 _ _ m_q16_w_31).1 ⟨by omega, by omega⟩
  have r_15 : ∀ j, j < 6 → w_59.1 (q16 + 1 + j) = some (aI D 120 (fun _ => 0)) := fun j hj => (z_31 _ _ (r_q16 j hj)).1 ⟨by omega, by omega⟩
  have e_16 := (z_33 _ _ m_q17_w_33).1 ⟨by omega, by omega⟩
  have e_17 := (z_35 _ _ m_q18_w_35).1 ⟨by omega, by omega⟩
  have r_17 : ∀ j, j < 6 → w_59.1 (q18 + 1 + j) = some (aZ D 10 (fun _ => 0)) := fun j hj => (z_35 _ _ (r_q18 j hj)).1 ⟨by omega, by omega⟩
  have e_18 := (z_37 _ _ m_q19_w_37).1 ⟨by omega, by omega⟩
  have r_18 : ∀ j, j < 6 → w_59.1 (q19 + 1 + j) = some (aZ D 10 (fun _ => 0)) := fun j hj => (z_37 _ _ (r_q19 j hj)).1 ⟨by omega, by omega⟩
  have e_19 := (z_39 _ _ m_q20_w_39).1 ⟨by omega, by omega⟩
  have r_19 : ∀ j, j < 6 → w_59.1 (q20 + 1 + j * (10 + 1)) = some (aR D 5 10 (jro 10 (fun i => q20 + 1 + j * (10 + 1) + 1 + i))) := fun j hj => (z_39 _ _ (r_q20 j hj)).1 ⟨by omega, by omega⟩
  have r2_19 : ∀ j, j < 6 → ∀ i, i < 10 → w_59.1 (q20 + 1 + j * (10 + 1) + 1 + i) = some (aJ D 10 (fun _ => 0)) := fun j hj i hi => (z_39 _ _ (r2_q20 j hj i hi)).1 ⟨by omega, by omega⟩
  have e_20 := (z_41 _ _ m_q21_w_41).1 ⟨by omega, by omega⟩
  have e_22 := (z_46 _ _ m_q23_w_46).1 ⟨by omega, by omega⟩
  have e_24 := (z_54 _ _ m_q25_w_54).1 ⟨by omega, by omega⟩
  have e_25 := (z_56 _ _ m_q26_w_56).1 ⟨by omega, by omega⟩
  have r_25 : ∀ j, j < 4 → w_59.1 (q26 + 1 + j) = some (aI D 40 (fun _ => 0)) := fun j hj => (z_56 _ _ (r_q26 j hj)).1 ⟨by omega, by omega⟩
  have e_26 := (z_58 _ _ m_q27_w_58).1 ⟨by omega, by omega⟩
  clear s_0 s_1 s_2 s_3 s_4 s_5 s_6 s_7 s_8 s_9 s_10 s_11 s_12 s_13 s_14 s_15 s_16 s_17 s_18 s_19 s_20 s_21 s_22 s_23 s_24 s_25 s_26 s_27 s_28 s_29 s_30 s_31 s_32 s_33 s_34 s_35 s_36 s_37 s_38 s_39 s_40 s_41 s_42 s_43 s_44 s_45 s_46 s_47 s_48 s_49 s_50 s_51 s_52 s_53 s_54 s_55 s_56 s_57 s_58
  have lp : ∀ (n k : Nat) (w1 : jW) (F : Nat → Option Nat) (P : Nat → Nat), k ≤ 200 → 200 < k + n → w1.1 q22 = some (aR D 11 200 F) → jfr (fun b => b ≠ q22) w_59 w1 → mods D w1 F P k q27 → (w1.2.1 = w.2.1 + (187 + 3 * k) ∧ w1.2.2 = w.2.2 + (6430 + 605 * k)) → JJ g w1 312 [(1, .int (nI k)), (0, .ref a)] [] := by
    intro n
    induction n with
    | zero => intro k w1 F P h1 h2; exact absurd h2 (Nat.not_lt.mpr h1)
    | succ n ih =>
      intro k w1 F P hk1 hk2 hF hfr hod hc1
      have hcz : w1.2.1 = w.2.1 + (187 + 3 * k + 0) ∧ w1.2.2 = w.2.2 + (6430 + 605 * k + 0) := hc1
      refine j_blk 316 [(1, .int (nI k)), (0, .ref a)] [.int 200, .int (nI k)] C k_c_Mo_init2_312_2 rfl ?_
      refine j_icmp_ge (tgt := 338) C d_c_Mo_init2_316 (by decide) (fun c28 => ?_) (fun c28 => ?_)
      · have hk : k = 200 := jl_eq c28 hk1
        subst hk
        have fo := jfrT fr_w_59 hfr (fun b e _ he => Nat.ne_of_lt (lt_q22 b _ he))
        have m_a_9 := (hfr _ _ m_a_w_59).1 (Nat.ne_of_lt g_21)
        have res : moK D w w1 a V _ (mbs q1 q2 q3 q4 q5 q6 q7 q8 q9 q10 q11 q12 q13 q14 q15 q16 q17 q18 q19 q20 q21 q22 q23 q24 q25 q26 q27 P) F := ⟨m_a_9, rfl, rfl, rfl, rfl, rfl, rfl, rfl, rfl, rfl, rfl, rfl, rfl, rfl, rfl, rfl, rfl, rfl, rfl, rfl, rfl, rfl, rfl, rfl, rfl, rfl, rfl, rfl, rfl, rfl, rfl, rfl, rfl, rfl, rfl, rfl, rfl, rfl, rfl, rfl, rfl, rfl, rfl, rfl, lt_q1, o_0, o_1, o_2, o_3, o_4, o_5, o_6, o_7, o_8, o_9, o_10, o_11, o_12, o_13, o_14, o_15, o_16, o_17, o_18, o_19, o_20, o_21, o_22, o_23, o_24, o_25, hod.2.2 (by decide), (hfr _ _ e_0).1 (by show _ ≠ _; omega), (hfr _ _ e_1).1 (by show _ ≠ _; omega), (hfr _ _ e_2).1 (by show _ ≠ _; omega), ⟨(hfr _ _ e_3).1 (by show _ ≠ _; omega), fun j hj => (hfr _ _ (r_3 j hj)).1 (by show _ ≠ _; omega)⟩, ⟨(hfr _ _ e_4).1 (by show _ ≠ _; omega), fun j hj => (hfr _ _ (r_4 j hj)).1 (by show _ ≠ _; omega)⟩, ⟨(hfr _ _ e_5).1 (by show _ ≠ _; omega), fun j hj => (hfr _ _ (r_5 j hj)).1 (by show _ ≠ _; omega)⟩, ⟨(hfr _ _ e_6).1 (by show _ ≠ _; omega), fun j hj => (hfr _ _ (r_6 j hj)).1 (by show _ ≠ _; omega)⟩, ⟨(hfr _ _ e_7).1 (by show _ ≠ _; omega), fun j hj => (hfr _ _ (r_7 j hj)).1 (by show _ ≠ _; omega)⟩, ⟨(hfr _ _ e_8).1 (by show _ ≠ _; omega), fun j hj => (hfr _ _ (r_8 j hj)).1 (by show _ ≠ _; omega)⟩, ⟨(hfr _ _ e_9).1 (by show _ ≠ _; omega), fun j hj => (hfr _ _ (r_9 j hj)).1 (by show _ ≠ _; omega)⟩, ⟨(hfr _ _ e_10).1 (by show _ ≠ _; omega), fun j hj => (hfr _ _ (r_10 j hj)).1 (by show _ ≠ _; omega)⟩, ⟨(hfr _ _ e_11).1 (by show _ ≠ _; omega), fun j hj => (hfr _ _ (r_11 j hj)).1 (by show _ ≠ _; omega)⟩, ⟨(hfr _ _ e_12).1 (by show _ ≠ _; omega), fun j hj => (hfr _ _ (r_12 j hj)).1 (by show _ ≠ _; omega)⟩, ⟨(hfr _ _ e_13).1 (by show _ ≠ _; omega), fun j hj => (hfr _ _ (r_13 j hj)).1 (by show _ ≠ _; omega)⟩, ⟨(hfr _ _ e_14).1 (by show _ ≠ _; omega), fun j hj => (hfr _ _ (r_14 j hj)).1 (by show _ ≠ _; omega)⟩, ⟨(hfr _ _ e_15).1 (by show _ ≠ _; omega), fun j hj => (hfr _ _ (r_15 j hj)).1 (by show _ ≠ _; omega)⟩, (hfr _ _ e_16).1 (by show _ ≠ _; omega), ⟨(hfr _ _ e_17).1 (by show _ ≠ _; omega), fun j hj => (hfr _ _ (r_17 j hj)).1 (by show _ ≠ _; omega)⟩, ⟨(hfr _ _ e_18).1 (by show _ ≠ _; omega), fun j hj => (hfr _ _ (r_18 j hj)).1 (by show _ ≠ _; omega)⟩, ⟨(hfr _ _ e_19).1 (by show _ ≠ _; omega), fun j hj => (hfr _ _ (r_19 j hj)).1 (by show _ ≠ _; omega), fun j hj i hi => (hfr _ _ (r2_19 j hj i hi)).1 (by show _ ≠ _; omega)⟩, (hfr _ _ e_20).1 (by show _ ≠ _; omega), ⟨hF, hod⟩, (hfr _ _ e_22).1 (by show _ ≠ _; omega), (hfr _ _ m_q24_w_59).1 (by show _ ≠ _; omega), (hfr _ _ e_24).1 (by show _ ≠ _; omega), ⟨(hfr _ _ e_25).1 (by show _ ≠ _; omega), fun j hj => (hfr _ _ (r_25 j hj)).1 (by show _ ≠ _; omega)⟩, (hfr _ _ e_26).1 (by show _ ≠ _; omega)⟩
        exact j_vret C Rm E d_c_Mo_init2_338 ⟨rfl, ⟨hc1.1, hc1.2⟩, fo, _, _, _, res⟩ (jbnd hc1.1 rfl) (jbnd hc1.2 rfl)
      · refine j_blk 320 [(1, .int (nI k)), (0, .ref a)] [.ref a] C k_c_Mo_init2_319_1 rfl ?_
        have m_a_w1 := (hfr _ _ m_a_w_59).1 x_a_q22
        refine j_get C d_c_Mo_init2_320 fg_Mo_81 m_a_w1 rfl ?_
        refine j_blk 324 [(1, .int (nI k)), (0, .ref a)] [.int (nI k), .ref q22] C k_c_Mo_init2_323_1 rfl ?_
        refine j_new C Rm d_c_Mo_init2_324 nw_Mo_79 (jl_r 199 (Nat.le_of_lt_succ (jl_lt c28 hk1)) hcz.1 rfl) (jl_r 199 (Nat.le_of_lt_succ (jl_lt c28 hk1)) hcz.2 rfl) (fun q29 f_q29 => ?_)
        refine jnv (fun w_60 ew_60 => ?_)
        have m_q29_w_60 : w_60.1 q29 = some (.inr (9, v0_9)) := jus ew_60
        have hk_w_60 := jk1 ew_60 hcz
        have lt_q29 := jfrL hfr f_q29
        have fr_w_60 := jfrN ew_60 hfr f_q29
        refine j_blk 328 [(1, .int (nI k)), (0, .ref a)] [.ref q29, .ref q29, .int (nI k), .ref q22] C k_c_Mo_init2_327_1 rfl ?_
        refine j_callIn C Rm Y [] [.ref q29, .int (nI k), .ref q22] (c_Odds_init2 l D B H0 w_60 q29 v0_9 m_q29_w_60) cl_Mo_104 d_c_Mo_init2_328 rfl rfl (Nat.le_of_ble_eq_true rfl) ⟨by decide, by decide⟩ ⟨(jl_r 199 (Nat.le_of_lt_succ (jl_lt c28 hk1)) hk_w_60.1 rfl), (jl_r 199 (Nat.le_of_lt_succ (jl_lt c28 hk1)) hk_w_60.2 rfl)⟩ (fun v30 w_61 pw_61 => ?_)
        obtain ⟨rfl, hc_w_61, G_w_61, V_w_61, q31, q32, lt12_w_61, ltq31_w_61, ltq32_w_61, mo_w_61, hV0_w_61, hV1_w_61, hV2_w_61, mmq31_w_61, mmq32_w_61⟩ := pw_61
        have hk_w_61 := jkT hk_w_60 hc_w_61
        have lt_q31 := jfrL fr_w_60 ltq31_w_61
        have lt_q32 := jfrL fr_w_60 ltq32_w_61
        have fr_w_61 := jfrT fr_w_60 G_w_61 (fun b _ _ he => Nat.ne_of_lt (lt_q29 b _ he))
        show JJ g w_61 331 [(1, .int (nI k)), (0, .ref a)] [.ref q29, .int (nI k), .ref q22]
        have x_q22_q29 := Nat.ne_of_lt (f_q29 _ _ hF)
        have m_q22_w_60 := jun ew_60 hF x_q22_q29
        have m_q22_w_61 := (G_w_61 _ _ m_q22_w_60).1 x_q22_q29
        refine j_aast C d_c_Mo_init2_331 (by rfl) (by rfl) m_q22_w_61 mo_w_61 (vp_in_nI (jl_lt c28 hk1) (by decide)) ?_
        refine jnv (fun w_62 ew_62 => ?_)
        have m_q22_w_62 : w_62.1 q22 = some (aR D 11 200 (va_up F (Int32.toNatClampNeg (nI k)) (some q29))) := jus ew_62
        have hk_w_62 := jk0 ew_62 hk_w_61
        have fr_w_62 := jfrW ew_62 fr_w_61 (fun b e hb _ => hb)
        refine j_blk 312 [(1, .int ((nI k) + 1)), (0, .ref a)] [] C k_c_Mo_init2_332_2 rfl ?_
        rw [nI_1]
        have kp : ∀ b e, w1.1 b = some e → b ≠ q22 → w_62.1 b = some e := fun b e he hne => jun ew_62 ((G_w_61 b e (jun ew_60 he (Nat.ne_of_lt (f_q29 b e he)))).1 (Nat.ne_of_lt (f_q29 b e he))) hne
        have m_q29_w_62 := jun ew_62 mo_w_61 (Ne.symm x_q22_q29)
        have hoo := m_q29_w_62
        have m_q31_w_62 := jun ew_62 mmq31_w_61 (jneN mmq31_w_61 m_q22_w_61 rfl)
        have ho1 := m_q31_w_62
        have m_q32_w_62 := jun ew_62 mmq32_w_61 (jneN mmq32_w_61 m_q22_w_61 rfl)
        have ho2 := m_q32_w_62
        have hod2 := hod.snoc (jl_lt c28 hk1) hF ((hfr _ _ e_26).1 (by show _ ≠ _; omega)) f_q29 kp (ltq31_w_61 _ _ m_q29_w_60) lt12_w_61 ⟨_, hoo, hV0_w_61, hV1_w_61, hV2_w_61⟩ ho1 ho2
        exact ih (k + 1) w_62 _ _ (jl_lt c28 hk1) (jl_fu hk2) m_q22_w_62 fr_w_62 hod2 ⟨jl_c 187 3 k hk_w_62.1, jl_c 6430 605 k hk_w_62.2⟩
  have hB := hk_w_59
  exact lp 201 0 w_59 _ (fun _ => 0) (by decide) (by decide) m_q22_w_59 jfr0 ⟨fun j hj => absurd hj (Nat.not_lt_zero _), fun j hj => absurd hj (Nat.not_lt_zero _), fun h9 => absurd h9 (Nat.lt_irrefl _)⟩ ⟨hB.1, hB.2⟩
