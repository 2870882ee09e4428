/-! the reference: lowest terms (own work, by program) -/
theorem f_q_lowest_0_4 : mblkB b_Mo_lowest [(0, .lload_n 0, vi 0), (1, .lstore 5, vi 0), (3, .lload_n 2, vi 0), (4, .lstore 7, vi 0)] = true := by decide +kernel
theorem f_q_lowest_6_2 : mblkB b_Mo_lowest [(6, .lload 7, vi 0), (8, .lconst 0, vl 0)] = true := by decide +kernel
theorem e_q_lowest_9 : decode b_Mo_lowest 9 = .ok (.lcmp, 1) := by decide +kernel
theorem e_q_lowest_10 : decode b_Mo_lowest 10 = .ok (.ifCond .eq 21, 3) := by decide +kernel
theorem f_q_lowest_31_1 : mblkB b_Mo_lowest [(31, .iload 4, vi 0)] = true := by decide +kernel
theorem e_q_lowest_33 : decode b_Mo_lowest 33 = .ok (.ifCond .ne 7, 3) := by decide +kernel
theorem f_q_lowest_40_2 : mblkB b_Mo_lowest [(40, .lload_n 2, vi 0), (41, .lload 5, vi 0)] = true := by decide +kernel
theorem e_q_lowest_43 : decode b_Mo_lowest 43 = .ok (.ldiv, 1) := by decide +kernel
theorem e_q_lowest_44 : decode b_Mo_lowest 44 = .ok (.lreturn, 1) := by decide +kernel
theorem f_q_lowest_36_2 : mblkB b_Mo_lowest [(36, .lload_n 0, vi 0), (37, .goto 4, vi 41)] = true := by decide +kernel
theorem f_q_lowest_41_1 : mblkB b_Mo_lowest [(41, .lload 5, vi 0)] = true := by decide +kernel
theorem f_q_lowest_13_2 : mblkB b_Mo_lowest [(13, .lload 5, vi 0), (15, .lload 7, vi 0)] = true := by decide +kernel
theorem e_q_lowest_17 : decode b_Mo_lowest 17 = .ok (.lrem, 1) := by decide +kernel
theorem f_q_lowest_18_6 : mblkB b_Mo_lowest [(18, .lstore 9, vi 0), (20, .lload 7, vi 0), (22, .lstore 5, vi 0), (24, .lload 9, vi 0), (26, .lstore 7, vi 0), (28, .goto (-22), vi 6)] = true := by decide +kernel
set_option maxHeartbeats 40000000 in
set_option maxRecDepth 100000 in
theorem q_lowest (l : Launch) (D : va_G) (B : Nat) (H0 : Heap) (ad : mAd) (A : mA)  (a : Int) (b : Int) (x : Int) (ha : 0 ≤ a ∧ a ≤ 9223372036854775807) (hb : 1 ≤ b ∧ b ≤ 9223372036854775807) (hx : -2147483648 ≤ x ∧ x ≤ 2147483647)  : mMet l D B H0 ad y_Mo_lowest b_Mo_lowest 11 (some .long) 0 0 [vl a, vl b, vi x] A (fun v9 A9 => ∃ z : Int, v9 = some (vl z) ∧ A = A9 ∧ (0 ≤ z ∧ z ≤ 9223372036854775807)) := by
  refine m_met (by decide) rfl (fun g w0 C Rm Y E => ?_)
  show JM g D ad w0 A 0 [(0, vl a), (2, vl b), (4, vi x)] []
  refine m_blk 6 [(7, vl b), (5, vl a), (0, vl a), (2, vl b), (4, vi x)] [] C f_q_lowest_0_4 rfl ?_
  have hd_6 : ∀ (NZ : Nat) (c : Int) (e : Int), 0 ≤ c ∧ c ≤ 9223372036854775807 → 0 ≤ e ∧ e ≤ 9223372036854775807 → 1 ≤ c + e → e < (NZ : Int) → JM g D ad w0 A 6 [(7, vl e), (5, vl c), (0, vl a), (2, vl b), (4, vi x)] [] := by
    intro NZ
    induction NZ with
    | zero => intro c e hc he h1 hm6; exact absurd hm6 (by omega)
    | succ NZ ih6 =>
      intro c e hc he h1 hm6
      refine m_blk 9 [(7, vl e), (5, vl c), (0, vl a), (2, vl b), (4, vi x)] [vl 0, vl e] C f_q_lowest_6_2 rfl ?_
      refine m_lcmp C e_q_lowest_9 (by omega) (by decide) (fun z1 hz1 => ?_)
      refine m_if_eq (tgt := 31) C e_q_lowest_10 (by decide) (by omega) (fun c2 => ?_) (fun c2 => ?_)
      · refine m_blk 33 [(7, vl e), (5, vl c), (0, vl a), (2, vl b), (4, vi x)] [vi x] C f_q_lowest_31_1 rfl ?_
        refine m_if_ne (tgt := 40) C e_q_lowest_33 (by decide) (by omega) (fun c3 => ?_) (fun c3 => ?_)
        · refine m_blk 43 [(7, vl e), (5, vl c), (0, vl a), (2, vl b), (4, vi x)] [vl c, vl b] C f_q_lowest_40_2 rfl ?_
          refine m_ldiv C e_q_lowest_43 (by omega) (by omega) (by omega) ?_
          exact m_lret C Rm E e_q_lowest_44 ⟨(Int.tdiv b c), rfl, rfl, (by rw [Int.tdiv_eq_ediv_of_nonneg (by omega)]; have h8 : 0 ≤ b / c := Int.ediv_nonneg (by omega) (by omega); have h9 : b / c ≤ b := Int.ediv_le_self _ (by omega); exact ⟨h8, by omega⟩)⟩
        · refine m_blk 41 [(7, vl e), (5, vl c), (0, vl a), (2, vl b), (4, vi x)] [vl a] C f_q_lowest_36_2 rfl ?_
          refine m_blk 43 [(7, vl e), (5, vl c), (0, vl a), (2, vl b), (4, vi x)] [vl c, vl a] C f_q_lowest_41_1 rfl ?_
          refine m_ldiv C e_q_lowest_43 (by omega) (by omega) (by omega) ?_
          exact m_lret C Rm E e_q_lowest_44 ⟨(Int.tdiv a c), rfl, rfl, (by rw [Int.tdiv_eq_ediv_of_nonneg (by omega)]; have h8 : 0 ≤ a / c := Int.ediv_nonneg (by omega) (by omega); have h9 : a / c ≤ a := Int.ediv_le_self _ (by omega); exact ⟨h8, by omega⟩)⟩
      · refine m_blk 17 [(7, vl e), (5, vl c), (0, vl a), (2, vl b), (4, vi x)] [vl e, vl c] C f_q_lowest_13_2 rfl ?_
        refine m_lrem C e_q_lowest_17 (by omega) (by omega) (by omega) ?_
        have m9 : 0 ≤ Int.tmod c e ∧ Int.tmod c e < e := by
          rw [Int.tmod_eq_emod_of_nonneg (by omega)]
          exact ⟨Int.emod_nonneg _ (by omega), Int.emod_lt_of_pos _ (by omega)⟩
        refine m_blk 6 [(7, vl (Int.tmod c e)), (5, vl e), (9, vl (Int.tmod c e)), (0, vl a), (2, vl b), (4, vi x)] [] C f_q_lowest_18_6 rfl ?_
        refine m_loc [(7, vl (Int.tmod c e)), (5, vl e), (0, vl a), (2, vl b), (4, vi x)] ⟨rfl, rfl, rfl, rfl, rfl, trivial⟩ ?_
        exact ih6 e (Int.tmod c e) (by show 0 ≤ e ∧ e ≤ 9223372036854775807; omega) (by show 0 ≤ (Int.tmod c e) ∧ (Int.tmod c e) ≤ 9223372036854775807; omega) (by show 1 ≤ e + (Int.tmod c e); omega) (by show (Int.tmod c e) < _; omega)
  refine m_loc [(7, vl b), (5, vl a), (0, vl a), (2, vl b), (4, vi x)] ⟨rfl, rfl, rfl, rfl, rfl, trivial⟩ ?_
  exact hd_6 (Int.toNat (b) + 1) a b (by show 0 ≤ a ∧ a ≤ 9223372036854775807; omega) (by show 0 ≤ b ∧ b ≤ 9223372036854775807; omega) (by show 1 ≤ a + b; omega) (by show b < _; omega)

theorem f_q_areSame_0_3 : mblkB b_Mo_areSame [(0, .lload_n 0, vi 0), (1, .lload_n 2, vi 0), (2, .iconst 0, vi 0)] = true := by decide +kernel
theorem e_q_areSame_3 : decode b_Mo_areSame 3 = .ok (.invokestatic 376, 3) := by decide +kernel
theorem f_q_areSame_6_3 : mblkB b_Mo_areSame [(6, .lload 4, vi 0), (8, .lload 6, vi 0), (10, .iconst 0, vi 0)] = true := by decide +kernel
theorem e_q_areSame_11 : decode b_Mo_areSame 11 = .ok (.invokestatic 376, 3) := by decide +kernel
theorem e_q_areSame_14 : decode b_Mo_areSame 14 = .ok (.lcmp, 1) := by decide +kernel
theorem e_q_areSame_15 : decode b_Mo_areSame 15 = .ok (.ifCond .ne 25, 3) := by decide +kernel
theorem f_q_areSame_40_1 : mblkB b_Mo_areSame [(40, .iconst 0, vi 0)] = true := by decide +kernel
theorem e_q_areSame_41 : decode b_Mo_areSame 41 = .ok (.ireturn, 1) := by decide +kernel
theorem f_q_areSame_18_3 : mblkB b_Mo_areSame [(18, .lload_n 0, vi 0), (19, .lload_n 2, vi 0), (20, .iconst 1, vi 1)] = true := by decide +kernel
theorem e_q_areSame_21 : decode b_Mo_areSame 21 = .ok (.invokestatic 376, 3) := by decide +kernel
theorem f_q_areSame_24_3 : mblkB b_Mo_areSame [(24, .lload 4, vi 0), (26, .lload 6, vi 0), (28, .iconst 1, vi 1)] = true := by decide +kernel
theorem e_q_areSame_29 : decode b_Mo_areSame 29 = .ok (.invokestatic 376, 3) := by decide +kernel
theorem e_q_areSame_32 : decode b_Mo_areSame 32 = .ok (.lcmp, 1) := by decide +kernel
theorem e_q_areSame_33 : decode b_Mo_areSame 33 = .ok (.ifCond .ne 7, 3) := by decide +kernel
theorem f_q_areSame_36_2 : mblkB b_Mo_areSame [(36, .iconst 1, vi 1), (37, .goto 4, vi 41)] = true := by decide +kernel
set_option maxHeartbeats 40000000 in
set_option maxRecDepth 100000 in
theorem q_areSame (l : Launch) (D : va_G) (B : Nat) (H0 : Heap) (ad : mAd) (A : mA)  (a : Int) (b : Int) (c : Int) (e : Int) (ha : 0 ≤ a ∧ a ≤ 9223372036854775807) (hb : 1 ≤ b ∧ b ≤ 9223372036854775807) (hc : 0 ≤ c ∧ c ≤ 9223372036854775807) (he : 1 ≤ e ∧ e ≤ 9223372036854775807)  : mMet l D B H0 ad y_Mo_areSame b_Mo_areSame 8 (some .boolean) 1 60 [vl a, vl b, vl c, vl e] A (fun v9 A9 => ∃ z : Int, v9 = some (vi z) ∧ A = A9 ∧ (z = 0 ∨ z = 1)) := by
  refine m_met (by decide) rfl (fun g w0 C Rm Y E => ?_)
  show JM g D ad w0 A 0 [(0, vl a), (2, vl b), (4, vl c), (6, vl e)] []
  refine m_blk 3 [(0, vl a), (2, vl b), (4, vl c), (6, vl e)] [vi 0, vl b, vl a] C f_q_areSame_0_3 rfl ?_
  refine m_callS C Rm Y [vl a, vl b, vi 0] [] (q_lowest l D B H0 ad _ a b 0 (by show 0 ≤ a ∧ a ≤ 9223372036854775807; omega) (by show 1 ≤ b ∧ b ≤ 9223372036854775807; omega) (by show -2147483648 ≤ 0 ∧ 0 ≤ 2147483647; omega)) cl_Mo_376 e_q_areSame_3 rfl rfl rfl ⟨by decide, by decide⟩ ?_
  rintro v1 A2 ⟨z5, rfl, rfl, raw_hz_n4⟩
  have hz_n4 : 0 ≤ z5 ∧ z5 ≤ 9223372036854775807 := raw_hz_n4
  clear raw_hz_n4
  show JM g D ad w0 A 6 [(0, vl a), (2, vl b), (4, vl c), (6, vl e)] [vl z5]
  refine m_blk 11 [(0, vl a), (2, vl b), (4, vl c), (6, vl e)] [vi 0, vl e, vl c, vl z5] C f_q_areSame_6_3 rfl ?_
  refine m_callS C Rm Y [vl c, vl e, vi 0] [vl z5] (q_lowest l D B H0 ad _ c e 0 (by show 0 ≤ c ∧ c ≤ 9223372036854775807; omega) (by show 1 ≤ e ∧ e ≤ 9223372036854775807; omega) (by show -2147483648 ≤ 0 ∧ 0 ≤ 2147483647; omega)) cl_Mo_376 e_q_areSame_11 rfl rfl rfl ⟨by decide, by decide⟩ ?_
  rintro v6 A7 ⟨z10, rfl, rfl, raw_hz_n9⟩
  have hz_n9 : 0 ≤ z10 ∧ z10 ≤ 9223372036854775807 := raw_hz_n9
  clear raw_hz_n9
  show JM g D ad w0 A 14 [(0, vl a), (2, vl b), (4, vl c), (6, vl e)] [vl z10, vl z5]
  refine m_lcmp C e_q_areSame_14 (by omega) (by omega) (fun z11 hz11 => ?_)
  refine m_if_ne (tgt := 40) C e_q_areSame_15 (by decide) (by omega) (fun c12 => ?_) (fun c12 => ?_)
  · refine m_blk 41 [(0, vl a), (2, vl b), (4, vl c), (6, vl e)] [vi 0] C f_q_areSame_40_1 rfl ?_
    exact m_zret C Rm E (Or.inl rfl) e_q_areSame_41 ⟨0, rfl, rfl, (by show 0 = 0 ∨ 0 = 1; omega)⟩
  · refine m_blk 21 [(0, vl a), (2, vl b), (4, vl c), (6, vl e)] [vi 1, vl b, vl a] C f_q_areSame_18_3 rfl ?_
    refine m_callS C Rm Y [vl a, vl b, vi 1] [] (q_lowest l D B H0 ad _ a b 1 (by show 0 ≤ a ∧ a ≤ 9223372036854775807; omega) (by show 1 ≤ b ∧ b ≤ 9223372036854775807; omega) (by show -2147483648 ≤ 1 ∧ 1 ≤ 2147483647; omega)) cl_Mo_376 e_q_areSame_21 rfl rfl rfl ⟨by decide, by decide⟩ ?_
    rintro v13 A14 ⟨z17, rfl, rfl, raw_hz_n16⟩
    have hz_n16 : 0 ≤ z17 ∧ z17 ≤ 9223372036854775807 := raw_hz_n16
    clear raw_hz_n16
    show JM g D ad w0 A 24 [(0, vl a), (2, vl b), (4, vl c), (6, vl e)] [vl z17]
    refine m_blk 29 [(0, vl a), (2, vl b), (4, vl c), (6, vl e)] [vi 1, vl e, vl c, vl z17] C f_q_areSame_24_3 rfl ?_
    refine m_callS C Rm Y [vl c, vl e, vi 1] [vl z17] (q_lowest l D B H0 ad _ c e 1 (by show 0 ≤ c ∧ c ≤ 9223372036854775807; omega) (by show 1 ≤ e ∧ e ≤ 9223372036854775807; omega) (by show -2147483648 ≤ 1 ∧ 1 ≤ 2147483647; omega)) cl_Mo_376 e_q_areSame_29 rfl rfl rfl ⟨by decide, by decide⟩ ?_
    rintro v18 A19 ⟨z22, rfl, rfl, raw_hz_n21⟩
    have hz_n21 : 0 ≤ z22 ∧ z22 ≤ 9223372036854775807 := raw_hz_n21
    clear raw_hz_n21
    show JM g D ad w0 A 32 [(0, vl a), (2, vl b), (4, vl c), (6, vl e)] [vl z22, vl z17]
    refine m_lcmp C e_q_areSame_32 (by omega) (by omega) (fun z23 hz23 => ?_)
    refine m_if_ne (tgt := 40) C e_q_areSame_33 (by decide) (by omega) (fun c24 => ?_) (fun c24 => ?_)
    · refine m_blk 41 [(0, vl a), (2, vl b), (4, vl c), (6, vl e)] [vi 0] C f_q_areSame_40_1 rfl ?_
      exact m_zret C Rm E (Or.inl rfl) e_q_areSame_41 ⟨0, rfl, rfl, (by show 0 = 0 ∨ 0 = 1; omega)⟩
    · refine m_blk 41 [(0, vl a), (2, vl b), (4, vl c), (6, vl e)] [vi 1] C f_q_areSame_36_2 rfl ?_
      exact m_zret C Rm E (Or.inr rfl) e_q_areSame_41 ⟨1, rfl, rfl, (by show 1 = 0 ∨ 1 = 1; omega)⟩
