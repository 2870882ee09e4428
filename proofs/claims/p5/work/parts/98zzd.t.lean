/-! program() of the reference, exactly (own work) -/
theorem iOr00 : iOr 0 0 = 0 := by decide
theorem iOr10 : iOr 1 0 = 1 := by decide
theorem iOr11 : iOr 1 1 = 1 := by decide
theorem iOr011 : iOr 0 1 = 1 := by decide
/-- changed at most by program() of the reference -/
def dH (P : Nat) (f a j : Nat) : Prop := dG P f a j ∨ (f = 0 ∧ a = 0 ∧ (j = 0 ∨ j = 22)) ∨ ((f = 5 ∨ f = 6 ∨ f = 7) ∧ a = 0 ∧ j = P) ∨ (f = 47 ∧ a = P)
section MP
variable {P : Nat} {T : Nat → Int} {m : Nat}
theorem mPre.far {M M' : mA} {i : Nat} {s : kS} (h : mPre P M i s) (hr : ∀ f j, 34 ≤ f → f ≤ 46 → M' f P j = M f P j) (h2 : M' 0 0 29 = M 0 0 29 ∧ M' 0 0 30 = M 0 0 30) : mPre P M' i s := by
  obtain ⟨⟨a1, a2, a3⟩, b2, b3, b4⟩ := h
  refine ⟨⟨by rw [hr 34 i (by decide) (by decide)]; exact a1, by rw [hr 35 i (by decide) (by decide)]; exact a2, by rw [hr 36 i (by decide) (by decide)]; exact a3⟩, fun q1 q2 => ?_, fun q => ?_, fun q => ?_⟩
  · obtain ⟨c1, n, c2⟩ := b2 q1 q2
    rw [hr 39 i (by decide) (by decide), h2.2]
    exact ⟨c1, n, nT_keep n _ _ c2 (fun f j q1 q2 _ => hr f j (by omega) q2)⟩
  · rw [hr 39 i (by decide) (by decide)]
    exact b3 q
  · obtain ⟨n, c1, c2, c3⟩ := b4 q
    refine ⟨n, by rw [hr 40 i (by decide) (by decide)]; exact c1, by rw [h2.1]; exact c2, fun j hj => ?_⟩
    rw [hr 41 _ (by decide) (by decide), hr 42 _ (by decide) (by decide)]
    exact c3 j hj
theorem mIs.far {M M' : mA} {i : Nat} {s : kS} (h : mIs P M i s) (hr : ∀ f j, 34 ≤ f → f ≤ 46 → M' f P j = M f P j) (h2 : M' 0 0 29 = M 0 0 29 ∧ M' 0 0 30 = M 0 0 30) : mIs P M' i s := by
  refine ⟨h.1.far hr h2, ?_, ?_⟩
  · rw [hr 37 i (by decide) (by decide)]
    exact h.2.1
  · rw [hr 38 i (by decide) (by decide)]
    exact h.2.2
theorem m_told : ∀ (r n k : Nat) (A : mA), A 0 0 0 = P → P < 6 → k + r = 10 → r < n → ∃ A', f_Mo_program_181 n A k = some ((P : Int), A') ∧ (∀ f a j, ¬ (f = 47 ∧ a = P) → ¬ (f = 0 ∧ a = 0 ∧ j = 0) → A' f a j = A f a j) ∧ A' 0 0 0 = (P : Int) + 1 ∧ (∀ j, j < k → A' 47 P j = A 47 P j) ∧ ∀ j, k ≤ j → j < 10 → A' 47 P j = 0 := by
  intro r
  induction r with
  | zero =>
    intro n k A h0 hP h1 h2
    obtain ⟨n, rfl⟩ : ∃ q, n = q + 1 := ⟨n - 1, by omega⟩
    obtain rfl : k = 10 := by omega
    refine ⟨mu A 0 0 0 (A 0 0 0 + 1), ?_, fun f a j _ q => mu_ne _ _ q, ?_, fun _ _ => rfl, fun j a b => by omega⟩
    · rw [f_Mo_program_181, if_pos (by decide), if_pos (by decide), h0]
      congr 2
      omega
    · rw [mu_at, h0]
  | succ r ih =>
    intro n k A h0 hP h1 h2
    obtain ⟨n, rfl⟩ : ∃ q, n = q + 1 := ⟨n - 1, by omega⟩
    obtain ⟨A', x1, x2, x3, x4, x5⟩ := ih n (k + 1) (mu A 47 P k 0) h0 hP (by omega) (by omega)
    refine ⟨A', ?_, fun f a j q1 q2 => ?_, x3, fun j hj => ?_, fun j a b => ?_⟩
    · rw [f_Mo_program_181, if_pos (show g32 (k : Int) by unfold g32; omega), if_neg (show ¬ (10 : Int) ≤ (k : Int) by omega), h0, if_pos (show 0 ≤ (P : Int) ∧ (P : Int) < ((6 : Nat) : Int) by omega), if_pos (show 0 ≤ (k : Int) ∧ (k : Int) < ((10 : Nat) : Int) by omega), Int.toNat_natCast, Int.toNat_natCast]
      exact x1
    · rw [x2 f a j q1 q2, mu_ne _ _ (fun r => q1 ⟨r.1, r.2.1⟩)]
    · rw [x4 j (by omega), mu_ne _ _ (fun r => by omega)]
    · by_cases e : j = k
      · rw [e, x4 k (by omega), mu_at]
      · exact x5 j (by omega) b
/-- what program() leaves: a fault, too much, or a program -/
def mPg (P : Nat) (T : Nat → Int) (m : Nat) (A : mA) (bE tE : Int → Int) (z : Int) (A9 : mA) : Prop := (∀ f a j, ¬ dH P f a j → A9 f a j = A f a j) ∧ A9 0 0 22 = 0 ∧ kCase (kProg T m P) (fun b => z = -100 - b ∧ A9 0 0 0 = P) (fun x => (50 < tsm (gv (Fb (fun i => x.2.getD i kS0) bE) 16) (fun i => x.2.getD i kS0) 16 0 x.2.length ∨ 60 < tsm (gv (Ft (fun i => x.2.getD i kS0) tE) 16) (fun i => x.2.getD i kS0) 16 0 x.2.length) ∧ z = -4 ∧ A9 0 0 0 = P ∨ ¬ (50 < tsm (gv (Fb (fun i => x.2.getD i kS0) bE) 16) (fun i => x.2.getD i kS0) 16 0 x.2.length ∨ 60 < tsm (gv (Ft (fun i => x.2.getD i kS0) tE) 16) (fun i => x.2.getD i kS0) 16 0 x.2.length) ∧ z = P ∧ A9 0 0 0 = (P : Int) + 1 ∧ A9 5 0 P = x.2.length ∧ A9 6 0 P = tsm (gv (Fb (fun i => x.2.getD i kS0) bE) 16) (fun i => x.2.getD i kS0) 16 0 x.2.length ∧ A9 7 0 P = tsm (gv (Ft (fun i => x.2.getD i kS0) tE) 16) (fun i => x.2.getD i kS0) 16 0 x.2.length ∧ mAll P A9 0 x.2 ∧ (A9 0 0 29 ≤ 120 ∧ A9 0 0 30 ≤ 120) ∧ ∀ j, j < 10 → A9 47 P j = 0)
theorem okN_of {x : Nat × List kS} (h120 : m ≤ 120) (hT : ∀ j, j < 120 → 0 ≤ T j ∧ T j ≤ 255) {others : Int} (h : kBlock T m (kStep T m others 4) 0 0 = .inr x) : okN others (fun i => x.2.getD i kS0) x.2.length := by
  obtain ⟨h1, h2, h3⟩ := kProg_ok h120 hT h
  obtain ⟨b1, b2, b3⟩ := h1 (fun i => x.2.getD i kS0) 0 (fun j _ => by show x.2.getD (0 + j) kS0 = _; rw [Nat.zero_add])
  rw [Nat.zero_add] at b1 b3
  refine ⟨h3, ?_, fun i hi => b3 i (Nat.zero_le i) hi⟩
  have := tl_add b1 (16 - x.2.length)
  have e : x.2.length + (16 - x.2.length) = 16 := by omega
  rw [e] at this
  exact this
theorem tot_bd {others : Int} {c : Nat → kS} {N : Nat} (h : okN others c N) {v : Nat → Int} (hv : ∀ i, i < N → 0 ≤ v i ∧ v i ≤ sI (c i) * kW (sV (c i))) : 0 ≤ tsm v c 16 0 N ∧ tsm v c 16 0 N ≤ 16 * 400221 := by
  obtain ⟨q1, q2⟩ := tsm_bd (v := v) (K := 400221) _ _ _ h.2.1 (fun j p1 p2 p3 => by
    obtain ⟨r1, r2⟩ := hv j p2
    have := (kW_r (h.2.2 j p2).1.2.1).2
    exact ⟨r1, Int.le_trans r2 (Int.mul_le_mul_of_nonneg_left this (by omega))⟩)
  have := h.1
  omega
theorem m_program {A : mA} (h0 : A 0 0 0 = P) (hP : P < 6) (hb : bM A T m) (h25 : g32 (A 0 0 25)) {bE tE : Int → Int} (hE : ∀ u : Nat, u < P → A 6 0 u = bE u ∧ 0 ≤ bE u ∧ bE u ≤ 50) (hE2 : ∀ u : Nat, u < P → A 7 0 u = tE u ∧ 0 ≤ tE u ∧ tE u ≤ 60) : ∃ z A9, f_Mo_program A = some (z, A9) ∧ mPg P T m A bE tE z A9 := by
  obtain ⟨M1, M2, x1, x2, x3, x4, x5⟩ := m_read h0 hP hb
  have h120 := hb.2.1
  have hT : ∀ j, j < 120 → 0 ≤ T j ∧ T j ≤ 255 := fun j hj => (hb.2.2 j hj).2
  have k25 := x4 h25
  have k0 : M2 0 0 0 = P := (x3 0 0 0 (fun r => by unfold dG at r; omega)).trans h0
  unfold f_Mo_program
  rw [h0, if_pos (show g32 (P : Int) by unfold g32; omega), if_neg (show ¬ (P : Int) = 6 by omega), x1, obind]
  show ∃ z A9, Option.bind (f_Mo_block (f_Mo_stepN 6) M1) _ = _ ∧ _
  rw [x2, obind, if_pos k25]
  -- the reading was at fault
  have bad : ∀ (w : Int) (b : Nat), iOr (M2 0 0 31) w = 1 → M2 0 0 24 = b → (∀ f a j, ¬ dH P f a j → (mu (mu M2 0 0 31 (iOr (M2 0 0 31) w)) 0 0 22 0) f a j = A f a j) ∧ (mu (mu M2 0 0 31 (iOr (M2 0 0 31) w)) 0 0 22 0) 0 0 22 = 0 ∧ (-100 - M2 0 0 24 = -100 - (b : Int) ∧ (mu (mu M2 0 0 31 (iOr (M2 0 0 31) w)) 0 0 22 0) 0 0 0 = P) := fun w b e1 e2 => by
    refine ⟨fun f a j q => ?_, mu_at _ _ _ _ _, by rw [e2], k0⟩
    rw [mu_ne _ _ (fun r => q (Or.inr (Or.inl ⟨r.1, r.2.1, Or.inr r.2.2⟩))), mu_ne _ _ (fun r => q (Or.inl (by unfold dG; omega)))]
    exact x3 f a j (fun r => q (Or.inl r))
  unfold mPg kProg
  cases hq : kBlock T m (kStep T m P 4) 0 0 with
  | inl b =>
    rw [hq] at x5
    obtain ⟨y1, y2⟩ := x5
    by_cases c : M2 0 0 25 = 0
    · have e : iOr (M2 0 0 31) 0 = 1 := by rw [y1]; exact iOr10
      rw [if_pos c, if_pos (show iOr (M2 0 0 31) 0 = 0 ∨ iOr (M2 0 0 31) 0 = 1 from Or.inr e), if_neg (show ¬ iOr (M2 0 0 31) 0 = 0 by rw [e]; decide)]
      exact ⟨_, _, rfl, bad 0 b e y2⟩
    · have e : iOr (M2 0 0 31) 1 = 1 := by rw [y1]; exact iOr11
      rw [if_neg c, if_pos (show iOr (M2 0 0 31) 1 = 0 ∨ iOr (M2 0 0 31) 1 = 1 from Or.inr e), if_neg (show ¬ iOr (M2 0 0 31) 1 = 0 by rw [e]; decide)]
      exact ⟨_, _, rfl, bad 1 b e y2⟩
  | inr x =>
    rw [hq] at x5
    obtain ⟨y1, y2⟩ := x5
    rw [kThen_r]
    obtain ⟨e3, e4, e5, e6, e7⟩ := y1.1.2.1
    rcases y1.1.w with ⟨w1, w2⟩ | ⟨w1, w2⟩
    · have a25 : M2 0 0 25 = tkS (kTok T m x.1) := e5 w2
      by_cases c : tkS (kTok T m x.1) = 0
      · rw [if_pos c]
        obtain ⟨c9, hc9⟩ : ∃ c9 : Nat → kS, c9 = fun i => x.2.getD i kS0 := ⟨_, rfl⟩
        obtain ⟨N, hN⟩ : ∃ N, N = x.2.length := ⟨_, rfl⟩
        have ok : okN P c9 N := by
          rw [hc9, hN]
          exact okN_of h120 hT hq
        have hN16 : N ≤ 16 := ok.1
        obtain ⟨l1, l2, l3⟩ := y1.2.1 w1
        have hm2 := y2 w1
        have p120 := y1.1.2.2.1
        have e00 : iOr (M2 0 0 31) 0 = 0 := by rw [w1]; exact iOr00
        rw [if_pos (show M2 0 0 25 = 0 by rw [a25]; exact c), if_pos (show iOr (M2 0 0 31) 0 = 0 ∨ iOr (M2 0 0 31) 0 = 1 from Or.inl e00), if_pos e00, if_pos (show 0 ≤ M2 0 0 0 ∧ M2 0 0 0 < ((6 : Nat) : Int) by rw [k0]; omega)]
        obtain ⟨M3, hM3⟩ : ∃ M3, M3 = mu (mu (mu M2 0 0 31 0) 0 0 22 0) 5 0 P (N : Int) := ⟨_, rfl⟩
        have eM3 : mu (mu (mu M2 0 0 31 (iOr (M2 0 0 31) 0)) 0 0 22 0) 5 0 (M2 0 0 0).toNat (M2 0 0 28) = M3 := by
          rw [e00, k0, l3, hM3, hN, Int.toNat_natCast]
        have f3 : ∀ f a j, ¬ (f = 0 ∧ a = 0 ∧ (j = 31 ∨ j = 22)) → ¬ (f = 5 ∧ a = 0 ∧ j = P) → M3 f a j = M2 f a j := fun f a j q1 q2 => by
          rw [hM3, mu_ne _ _ q2, mu_ne _ _ (fun r => q1 ⟨r.1, r.2.1, Or.inr r.2.2⟩), mu_ne _ _ (fun r => q1 ⟨r.1, r.2.1, Or.inl r.2.2⟩)]
        have e0 : ∀ f u, f = 6 ∨ f = 7 → M3 f 0 u = A f 0 u := fun f u hf => by
          rw [f3 f 0 u (fun r => by omega) (fun r => by omega)]
          exact x3 f 0 u (fun r => by unfold dG at r; omega)
        have mt : mTx P M3 c9 N := by
          refine ⟨hP, fun i hi => ?_, ?_⟩
          · have := hm2 i (by omega)
            rw [Nat.zero_add] at this
            rw [hc9]
            exact this.far (fun f j q1 q2 => f3 f P j (fun r => by omega) (fun r => by omega)) ⟨f3 0 0 29 (fun r => by omega) (fun r => by omega), f3 0 0 30 (fun r => by omega) (fun r => by omega)⟩
          · rw [f3 0 0 29 (fun r => by omega) (fun r => by omega)]
            omega
        have m37 : ∀ i, i < N → M3 37 P i = ((i + sI (c9 i) : Nat) : Int) := fun i hi => (mt.2.1 i hi).2.1
        have bE2 : ∀ u : Nat, u < P → M3 6 0 u = bE u ∧ 0 ≤ bE u ∧ bE u ≤ 50 := fun u hu => by
          rw [e0 6 u (Or.inl rfl)]
          exact hE u hu
        have bE3 : ∀ u, 0 ≤ u → u < (P : Int) → 0 ≤ bE u ∧ bE u ≤ 50 := fun u h1 h2 => by
          have := (hE u.toNat (by omega)).2
          rw [Int.toNat_of_nonneg h1] at this
          exact this
        have tE3 : ∀ u, 0 ≤ u → u < (P : Int) → 0 ≤ tE u ∧ tE u ≤ 60 := fun u h1 h2 => by
          have := (hE2 u.toNat (by omega)).2
          rw [Int.toNat_of_nonneg h1] at this
          exact this
        have rb := tot_bd ok (fun i hi => bits_bd ok bE3 hi)
        have rt := tot_bd ok (fun i hi => turns_bd ok tE3 hi)
        have b1 := m_bits6 (bst := f_Mo_bitsOfStepN 20) (v := gv (Fb c9 bE) 16) (lo := 0) hP ok.1 (fun i _ hi => m_bitsN mt ok bE2 20 i (by omega) hi) m37 16 20 0 N 0 (Nat.le_refl _) (Nat.le_refl _) ok.2.1 (by omega)
        rw [Int.zero_add] at b1
        have b1' : f_Mo_bitsOf (f_Mo_bitsOfStepN 20) (mu (mu (mu M2 0 0 31 (iOr (M2 0 0 31) 0)) 0 0 22 0) 5 0 (M2 0 0 0).toNat (M2 0 0 28)) (M2 0 0 0) 0 (M2 0 0 28) = some (tsm (gv (Fb c9 bE) 16) c9 16 0 N, M3) := by
          rw [eM3, k0, l3, ← hN]
          exact b1
        generalize hX : tsm (gv (Fb c9 bE) 16) c9 16 0 N = X
        rw [hX] at rb
        have k3 : M3 0 0 0 = P := by
          rw [hM3]
          exact k0
        have l28 : M3 0 0 28 = N := by
          rw [hM3]
          show M2 0 0 28 = _
          rw [l3, hN]
        obtain ⟨M4, hM4⟩ : ∃ M4, M4 = mu M3 6 0 P X := ⟨_, rfl⟩
        have f4 : ∀ f a j, ¬ (f = 6 ∧ a = 0 ∧ j = P) → M4 f a j = M3 f a j := fun f a j q => by
          rw [hM4, mu_ne _ _ q]
        have mt4 : mTx P M4 c9 N := by
          refine ⟨hP, fun i hi => (mt.2.1 i hi).far (fun f j q1 q2 => f4 f P j (fun r => by omega)) ⟨f4 0 0 29 (fun r => by omega), f4 0 0 30 (fun r => by omega)⟩, ?_⟩
          rw [f4 0 0 29 (fun r => by omega)]
          exact mt.2.2
        have d1 := m_turns6 (bst := f_Mo_turnsOfStepN 20) (v := gv (Ft c9 tE) 16) (lo := 0) (M := M4) hP ok.1 (fun i _ hi => m_turnsN mt4 ok (fun u hu => by
          rw [f4 7 0 u (fun r => by omega), e0 7 u (Or.inr rfl)]
          exact (hE2 u hu).1) 20 i (by omega) hi) (fun i hi => (mt4.2.1 i hi).2.1) 16 20 0 N 0 (Nat.le_refl _) (Nat.le_refl _) ok.2.1 (by omega)
        rw [Int.zero_add] at d1
        have d1' : f_Mo_turnsOf (f_Mo_turnsOfStepN 20) (mu M3 6 0 (M2 0 0 0).toNat X) (M3 0 0 0) 0 (M3 0 0 28) = some (tsm (gv (Ft c9 tE) 16) c9 16 0 N, M4) := by
          rw [k0, k3, l28, Int.toNat_natCast, ← hM4]
          exact d1
        generalize hY : tsm (gv (Ft c9 tE) 16) c9 16 0 N = Y
        rw [hY] at rt
        dsimp only
        have k4 : M4 0 0 0 = P := (f4 0 0 0 (fun r => by omega)).trans k3
        have x6 : M4 6 0 P = X := by
          rw [hM4]
          exact mu_at _ _ _ _ _
        rw [hX] at b1'
        rw [hY] at d1'
        obtain ⟨M5, hM5⟩ : ∃ M5, M5 = mu M4 7 0 P Y := ⟨_, rfl⟩
        have e5 : mu M4 7 0 (M3 0 0 0).toNat Y = M5 := by rw [k3, Int.toNat_natCast, hM5]
        have e6 : M4 6 0 (M4 0 0 0).toNat = X := by rw [k4, Int.toNat_natCast, x6]
        rw [b1', obind]
        show ∃ z A9, Option.bind (f_Mo_turnsOf (f_Mo_turnsOfStepN 20) (mu M3 6 0 (M2 0 0 0).toNat X) (M3 0 0 0) 0 (M3 0 0 28)) _ = _ ∧ _
        rw [d1', obind]
        show ∃ z A9, (if 0 ≤ M3 0 0 0 ∧ M3 0 0 0 < ((6 : Nat) : Int) then (if 0 ≤ M4 0 0 0 ∧ M4 0 0 0 < ((6 : Nat) : Int) then (if g32 (M4 6 0 (M4 0 0 0).toNat) then (if 50 < M4 6 0 (M4 0 0 0).toNat then some ((-4 : Int), mu M4 7 0 (M3 0 0 0).toNat Y) else (if g32 ((mu M4 7 0 (M3 0 0 0).toNat Y) 7 0 (M4 0 0 0).toNat) then (if (mu M4 7 0 (M3 0 0 0).toNat Y) 7 0 (M4 0 0 0).toNat ≤ 60 then f_Mo_program_181 20 (mu M4 7 0 (M3 0 0 0).toNat Y) 0 else some ((-4 : Int), mu M4 7 0 (M3 0 0 0).toNat Y)) else none)) else none) else none) else none) = some (z, A9) ∧ _
        rw [if_pos (show 0 ≤ M3 0 0 0 ∧ M3 0 0 0 < ((6 : Nat) : Int) by rw [k3]; omega), if_pos (show 0 ≤ M4 0 0 0 ∧ M4 0 0 0 < ((6 : Nat) : Int) by rw [k4]; omega), e6, if_pos (show g32 X by unfold g32; omega), e5, k4, Int.toNat_natCast]
        have f5 : ∀ f a j, ¬ (f = 7 ∧ a = 0 ∧ j = P) → M5 f a j = M4 f a j := fun f a j q => by
          rw [hM5, mu_ne _ _ q]
        have fF : ∀ f a j, ¬ dH P f a j → M5 f a j = A f a j := fun f a j q => by
          rw [f5 f a j (fun r => q (Or.inr (Or.inr (Or.inl ⟨Or.inr (Or.inr r.1), r.2⟩)))), f4 f a j (fun r => q (Or.inr (Or.inr (Or.inl ⟨Or.inr (Or.inl r.1), r.2⟩)))), f3 f a j (fun r => by
            rcases r.2.2 with r9 | r9
            · exact q (Or.inl (Or.inl ⟨r.1, r.2.1, by omega, by omega⟩))
            · exact q (Or.inr (Or.inl ⟨r.1, r.2.1, Or.inr r9⟩))) (fun r => q (Or.inr (Or.inr (Or.inl ⟨Or.inl r.1, r.2⟩))))]
          exact x3 f a j (fun r => q (Or.inl r))
        have z22 : M5 0 0 22 = 0 := by
          rw [f5 0 0 22 (fun r => by omega), f4 0 0 22 (fun r => by omega), hM3]
          rfl
        have k5 : M5 0 0 0 = P := (f5 0 0 0 (fun r => by omega)).trans k4
        have y7 : M5 7 0 P = Y := by
          rw [hM5]
          exact mu_at _ _ _ _ _
        have e9 : (fun i => x.2.getD i kS0) = c9 := hc9.symm
        show ∃ (z : Int) (A9 : mA), _ ∧ (∀ f a j, ¬ dH P f a j → A9 f a j = A f a j) ∧ A9 0 0 22 = 0 ∧ ((50 < tsm (gv (Fb (fun i => x.2.getD i kS0) bE) 16) (fun i => x.2.getD i kS0) 16 0 x.2.length ∨ 60 < tsm (gv (Ft (fun i => x.2.getD i kS0) tE) 16) (fun i => x.2.getD i kS0) 16 0 x.2.length) ∧ z = -4 ∧ A9 0 0 0 = P ∨ ¬ (50 < tsm (gv (Fb (fun i => x.2.getD i kS0) bE) 16) (fun i => x.2.getD i kS0) 16 0 x.2.length ∨ 60 < tsm (gv (Ft (fun i => x.2.getD i kS0) tE) 16) (fun i => x.2.getD i kS0) 16 0 x.2.length) ∧ z = P ∧ A9 0 0 0 = (P : Int) + 1 ∧ A9 5 0 P = x.2.length ∧ A9 6 0 P = tsm (gv (Fb (fun i => x.2.getD i kS0) bE) 16) (fun i => x.2.getD i kS0) 16 0 x.2.length ∧ A9 7 0 P = tsm (gv (Ft (fun i => x.2.getD i kS0) tE) 16) (fun i => x.2.getD i kS0) 16 0 x.2.length ∧ mAll P A9 0 x.2 ∧ (A9 0 0 29 ≤ 120 ∧ A9 0 0 30 ≤ 120) ∧ ∀ j, j < 10 → A9 47 P j = 0)
        rw [e9, ← hN, hX, hY]
        by_cases q1 : 50 < X
        · rw [if_pos q1]
          exact ⟨_, _, rfl, fF, z22, Or.inl ⟨Or.inl q1, rfl, k5⟩⟩
        rw [if_neg q1, y7, if_pos (show g32 Y by unfold g32; omega)]
        by_cases q2 : Y ≤ 60
        · rw [if_pos q2]
          obtain ⟨A9, t1, t2, t3, -, t5⟩ := m_told 10 20 0 M5 k5 hP rfl (by omega)
          have t30 := y1.1.2.2.2
          have t1' : f_Mo_program_181 20 M5 0 = some ((P : Int), A9) := t1
          rw [t1']
          refine ⟨_, A9, rfl, fun f a j q => ?_, ?_, Or.inr ⟨by omega, rfl, t3, ?_, ?_, ?_, fun j hj => ?_, ⟨?_, ?_⟩, fun j hj => t5 j (Nat.zero_le j) hj⟩⟩
          · rw [t2 f a j (fun r => q (Or.inr (Or.inr (Or.inr r)))) (fun r => q (Or.inr (Or.inl ⟨r.1, r.2.1, Or.inl r.2.2⟩)))]
            exact fF f a j q
          · rw [t2 0 0 22 (fun r => by omega) (fun r => by omega)]
            exact z22
          · rw [t2 5 0 P (fun r => by omega) (fun r => by omega), f5 5 0 P (fun r => by omega), f4 5 0 P (fun r => by omega), hM3]
            exact mu_at _ _ _ _ _
          · rw [t2 6 0 P (fun r => by omega) (fun r => by omega), f5 6 0 P (fun r => by omega)]
            exact x6
          · rw [t2 7 0 P (fun r => by omega) (fun r => by omega)]
            exact y7
          · have := mt4.2.1 j (by omega)
            rw [hc9] at this
            rw [Nat.zero_add]
            refine this.far (fun f i q3 q4 => ?_) ⟨?_, ?_⟩
            · rw [t2 f P i (fun r => by omega) (fun r => by omega), f5 f P i (fun r => by omega)]
            · rw [t2 0 0 29 (fun r => by omega) (fun r => by omega), f5 0 0 29 (fun r => by omega)]
            · rw [t2 0 0 30 (fun r => by omega) (fun r => by omega), f5 0 0 30 (fun r => by omega)]
          · rw [t2 0 0 29 (fun r => by omega) (fun r => by omega), f5 0 0 29 (fun r => by omega)]
            exact mt4.2.2
          · rw [t2 0 0 30 (fun r => by omega) (fun r => by omega), f5 0 0 30 (fun r => by omega), f4 0 0 30 (fun r => by omega), f3 0 0 30 (fun r => by omega) (fun r => by omega)]
            omega
        · rw [if_neg q2]
          exact ⟨_, _, rfl, fF, z22, Or.inl ⟨Or.inr (by omega), rfl, k5⟩⟩
      · have e : iOr (M2 0 0 31) 1 = 1 := by rw [w1]; exact iOr011
        rw [if_neg c, if_neg (show ¬ M2 0 0 25 = 0 by rw [a25]; exact c), if_pos (show iOr (M2 0 0 31) 1 = 0 ∨ iOr (M2 0 0 31) 1 = 1 from Or.inr e), if_neg (show ¬ iOr (M2 0 0 31) 1 = 0 by rw [e]; decide)]
        exact ⟨_, _, rfl, bad 1 _ e e4⟩
    · rw [if_neg (show ¬ tkS (kTok T m x.1) = 0 by omega)]
      by_cases c : M2 0 0 25 = 0
      · have e : iOr (M2 0 0 31) 0 = 1 := by rw [w1]; exact iOr10
        rw [if_pos c, if_pos (show iOr (M2 0 0 31) 0 = 0 ∨ iOr (M2 0 0 31) 0 = 1 from Or.inr e), if_neg (show ¬ iOr (M2 0 0 31) 0 = 0 by rw [e]; decide)]
        exact ⟨_, _, rfl, bad 0 _ e e4⟩
      · have e : iOr (M2 0 0 31) 1 = 1 := by rw [w1]; exact iOr11
        rw [if_neg c, if_pos (show iOr (M2 0 0 31) 1 = 0 ∨ iOr (M2 0 0 31) 1 = 1 from Or.inr e), if_neg (show ¬ iOr (M2 0 0 31) 1 = 0 by rw [e]; decide)]
        exact ⟨_, _, rfl, bad 1 _ e e4⟩
end MP
