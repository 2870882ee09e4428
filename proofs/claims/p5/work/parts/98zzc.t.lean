/-! a text is weighed by the class (own work) -/
/-- what a step comes to: whether it SEES, the program that it RUNS -/
def vSee (c : Nat → kS) (sE : Int → Int) (i : Nat) : Int := if sK (c i) = 2 then 1 else if sK (c i) = 5 then sE (sU (c i)) else 0
def vRan (c : Nat → kS) (pE : Nat → Nat) (i : Nat) : Int := if sK (c i) = 5 then ((pE (sU (c i)).toNat : Nat) : Int) else -1
def nmS (c : Nat → kS) (N : Nat) : Nat → Int
  | 0 => 0
  | p + 1 => iOr (nmS c N p) (iOr (kSee 0 (sC (c (N - 1 - p)))) (if sN (c (N - 1 - p)) = -1 then 0 else iShl 1 (sN (c (N - 1 - p)))))
def ssS (c : Nat → kS) (sE : Int → Int) (N : Nat) : Nat → Int
  | 0 => 0
  | p + 1 => iOr (ssS c sE N p) (vSee c sE (N - 1 - p))
theorem iOrZ {a b : Int} (ha : a = 0 ∨ a = 1) (hb : b = 0 ∨ b = 1) : iOr a b = 0 ∨ iOr a b = 1 := by
  rcases ha with rfl | rfl <;> rcases hb with rfl | rfl <;> decide
/-- the elder programs, as the class has them -/
def cEl (P oa : Nat) (pE : Nat → Nat) (bE tE sE : Int → Int) (C : mA) : Prop := P < 6 ∧ ∀ u : Nat, u < P → 0 ≤ C 21 oa u ∧ (C 21 oa u).toNat = pE u ∧ (C 2 (pE u) 8 = bE u ∧ C 2 (pE u) 9 = tE u ∧ C 2 (pE u) 11 = sE u) ∧ (0 ≤ bE u ∧ bE u ≤ 50) ∧ (0 ≤ tE u ∧ tE u ≤ 60) ∧ (sE u = 0 ∨ sE u = 1)
section WG
variable {pr sa ca lv lw N P oa : Nat} {st : Nat → Nat} {c : Nat → kS} {pE : Nat → Nat} {bE tE sE : Int → Int}
theorem c_wstep (hst : ∀ i, i < 16 → ∀ j, j < 16 → st i = st j → i = j) (ho : okN P c N) {C : mA} (ht : cTb pr sa st C) (hl : cLv st c N C) {i : Nat} (hi : i < N) (hB : stIs pr ca lv lw st C i (c i)) (h7 : ∀ j, i < j → j < N → C 6 (st j) 7 = gv (Fb c bE) 16 j) (h8 : ∀ j, i < j → j < N → C 6 (st j) 8 = gv (Ft c tE) 16 j) (hE : cEl P oa pE bE tE sE C) : ∃ C', f_Prog_weighStep C pr (st i) i oa = some (0, C') ∧ (∀ f a j, ¬ (f = 6 ∧ a = st i ∧ (j = 7 ∨ j = 8 ∨ j = 12 ∨ j = 13)) → C' f a j = C f a j) ∧ C' 6 (st i) 7 = gv (Fb c bE) 16 i ∧ C' 6 (st i) 8 = gv (Ft c tE) 16 i ∧ C' 6 (st i) 12 = vSee c sE i ∧ C' 6 (st i) 13 = vRan c pE i := by
  obtain ⟨⟨s0, s1, s2, s3, s4⟩, s5, -, s7, ⟨s8, s12, s13⟩, -, -⟩ := hB
  obtain ⟨⟨hK, hV, hI, k3, k4, k5, k0, -⟩, h9⟩ := ho.2.2 i hi
  have hN := ho.1
  have hP := hE.1
  have hE2 : ∀ u, 0 ≤ u → u < (P : Int) → 0 ≤ bE u ∧ bE u ≤ 50 := fun u h1 h2 => by
    have := (hE.2 u.toNat (by omega)).2.2.2.1
    rw [Int.toNat_of_nonneg h1] at this
    exact this
  have bd : ∀ {L : Int} {a b : Nat}, tl c L 16 a b → b ≤ N → 0 ≤ tsm (gv (Fb c bE) 16) c 16 a b ∧ tsm (gv (Fb c bE) 16) c 16 a b ≤ 16 * 400221 := fun {L a b} t hb => by
    obtain ⟨q1, q2⟩ := tsm_bd (v := gv (Fb c bE) 16) (K := 400221) _ _ _ t (fun j p1 p2 p3 => by
      obtain ⟨r1, r2⟩ := bits_bd ho hE2 (show j < N by omega)
      have := (kW_r (ho.2.2 j (by omega)).1.2.1).2
      refine ⟨r1, Int.le_trans r2 (Int.mul_le_mul_of_nonneg_left this (by omega))⟩)
    have := tl_le _ _ _ t
    omega
  rw [gv_eq (Fb_c ho) hN hi, gv_eq (Ft_c ho) hN hi]
  unfold f_Prog_weighStep f_Prog_behind vSee vRan
  rw [c_at ht (show i < 16 by omega), obind]
  simp only [Int.toNat_natCast]
  rw [s3, if_pos (show g32 _ by unfold g32; omega), obind]
  simp only []
  have eb : (i : Int) + max 1 ((sI (c i) : Nat) : Int) = ((i + sI (c i) : Nat) : Int) := by omega
  rw [eb, s0, if_pos (show g32 _ by unfold g32; omega)]
  by_cases c2 : sK (c i) = 2
  · rw [if_pos c2, Fb_o (by omega) (by omega) (by omega) (by omega), Ft_o (by omega) (by omega) (by omega), if_pos c2, if_neg (show ¬ sK (c i) = 5 by omega)]
    refine ⟨mu C 6 (st i) 12 1, rfl, fun f a j q => mu_ne _ _ (fun r => q ⟨r.1, r.2.1, by omega⟩), ?_, ?_, mu_at _ _ _ _ _, ?_⟩
    · rw [mu_ne _ _ (fun r => absurd r.2.2 (by decide)), s7, if_neg (show ¬ sK (c i) = 0 by omega)]
    · rw [mu_ne _ _ (fun r => absurd r.2.2 (by decide)), s8]
    · rw [mu_ne _ _ (fun r => absurd r.2.2 (by decide)), s13]
  rw [if_neg c2, if_neg c2]
  by_cases c3 : sK (c i) = 3
  · obtain ⟨-, o1, o2, t1, t2⟩ := k3 c3
    have e5 : C 6 (st i) 5 = ((i + sO (c i) : Nat) : Int) := s5 c3
    have b1 := c_blk7 ht hl hN (v := gv (Fb c bE) 16) (b := i + sO (c i)) (by omega) (fun j q1 q2 => h7 j (by omega) (by omega)) t1 (x := (i : Int) + 1) (y := C 6 (st i) 5) rfl e5
    have b2 := c_blk7 ht hl hN (v := gv (Fb c bE) 16) (b := i + sI (c i)) h9 (fun j q1 q2 => h7 j (by omega) (by omega)) t2 (x := C 6 (st i) 5) (y := ((i + sI (c i) : Nat) : Int)) e5 rfl
    have r1 := bd t1 (by omega)
    have r2 := bd t2 h9
    rw [if_pos c3, b1, obind]
    show ∃ C', Option.bind (f_Prog_bitsOf C pr (C 6 (st i) 5) ((i + sI (c i) : Nat) : Int)) _ = _ ∧ _
    rw [b2, obind, if_pos (show g32 _ by unfold g32; dsimp only; omega), if_pos (show g32 _ by unfold g32; dsimp only; omega)]
    dsimp only
    rw [Fb_3 c3, Ft_3 c3]
    generalize max (tsm (gv (Fb c bE) 16) c 16 (i + 1) (i + sO (c i))) (tsm (gv (Fb c bE) 16) c 16 (i + sO (c i)) (i + sI (c i))) = X
    have n7 : ∀ f a j, ¬ (f = 6 ∧ a = st i ∧ j = 7) → mu C 6 (st i) 7 X f a j = C f a j := fun f a j q => mu_ne _ _ q
    have ht1 : cTb pr sa st (mu C 6 (st i) 7 X) := ht
    have hl1 : cLv st c N (mu C 6 (st i) 7 X) := hl
    have d1 := c_blk8 ht1 hl1 hN (v := gv (Ft c tE) 16) (b := i + sO (c i)) (by omega) (fun j q1 q2 => h8 j (by omega) (by omega)) t1 (x := (i : Int) + 1) (y := C 6 (st i) 5) rfl e5
    have d2 := c_blk8 ht1 hl1 hN (v := gv (Ft c tE) 16) (b := i + sI (c i)) h9 (fun j q1 q2 => h8 j (by omega) (by omega)) t2 (x := C 6 (st i) 5) (y := ((i + sI (c i) : Nat) : Int)) e5 rfl
    rw [d1, obind]
    show ∃ C', Option.bind (f_Prog_turnsOf (mu C 6 (st i) 7 X) pr (C 6 (st i) 5) ((i + sI (c i) : Nat) : Int)) _ = _ ∧ _
    rw [d2, obind, if_neg (show ¬ sK (c i) = 5 by omega), if_neg (show ¬ sK (c i) = 5 by omega)]
    dsimp only
    refine ⟨_, rfl, fun f a j q => ?_, ?_, mu_at _ _ _ _ _, ?_, ?_⟩
    · rw [mu_ne _ _ (fun r => q ⟨r.1, r.2.1, by omega⟩), mu_ne _ _ (fun r => q ⟨r.1, r.2.1, by omega⟩)]
    · rw [mu_ne _ _ (fun r => absurd r.2.2 (by decide)), mu_at]
    · rw [mu_ne _ _ (fun r => absurd r.2.2 (by decide)), mu_ne _ _ (fun r => absurd r.2.2 (by decide)), s12]
    · rw [mu_ne _ _ (fun r => absurd r.2.2 (by decide)), mu_ne _ _ (fun r => absurd r.2.2 (by decide)), s13]
  rw [if_neg c3]
  by_cases c4 : sK (c i) = 4
  · obtain ⟨-, -, t1⟩ := k4 c4
    have b1 := c_blk7 ht hl hN (v := gv (Fb c bE) 16) (b := i + sI (c i)) h9 (fun j q1 q2 => h7 j (by omega) (by omega)) t1 (x := (i : Int) + 1) (y := ((i + sI (c i) : Nat) : Int)) rfl rfl
    rw [if_pos c4, b1, obind]
    dsimp only
    rw [Fb_4 c4, Ft_4 c4]
    generalize tsm (gv (Fb c bE) 16) c 16 (i + 1) (i + sI (c i)) = X
    have ht1 : cTb pr sa st (mu C 6 (st i) 7 (C 6 (st i) 2 * X)) := ht
    have hl1 : cLv st c N (mu C 6 (st i) 7 (C 6 (st i) 2 * X)) := hl
    have d1 := c_blk8 ht1 hl1 hN (v := gv (Ft c tE) 16) (b := i + sI (c i)) h9 (fun j q1 q2 => h8 j (by omega) (by omega)) t1 (x := (i : Int) + 1) (y := ((i + sI (c i) : Nat) : Int)) rfl rfl
    rw [d1, obind, if_neg (show ¬ sK (c i) = 5 by omega), if_neg (show ¬ sK (c i) = 5 by omega)]
    dsimp only
    refine ⟨_, rfl, fun f a j q => ?_, ?_, ?_, ?_, ?_⟩
    · rw [mu_ne _ _ (fun r => q ⟨r.1, r.2.1, by omega⟩), mu_ne _ _ (fun r => q ⟨r.1, r.2.1, by omega⟩)]
    · rw [mu_ne _ _ (fun r => absurd r.2.2 (by decide)), mu_at, s2]
    · rw [mu_at, s2]
    · rw [mu_ne _ _ (fun r => absurd r.2.2 (by decide)), mu_ne _ _ (fun r => absurd r.2.2 (by decide)), s12]
    · rw [mu_ne _ _ (fun r => absurd r.2.2 (by decide)), mu_ne _ _ (fun r => absurd r.2.2 (by decide)), s13]
  rw [if_neg c4]
  by_cases c5 : sK (c i) = 5
  · obtain ⟨u1, u2⟩ := k5 c5
    obtain ⟨p1, p2, ⟨p3, p4, p5⟩, -, -, p6⟩ := hE.2 (sU (c i)).toNat (by omega)
    have eu : (((sU (c i)).toNat : Nat) : Int) = sU (c i) := Int.toNat_of_nonneg u1
    rw [eu] at p3 p4 p5 p6
    rw [if_pos c5, s2, if_pos (show g32 _ by unfold g32; omega), if_neg (by omega), if_pos (show g32 ((6 : Nat) : Int) by decide), if_neg (by omega), if_pos (show 0 ≤ sU (c i) ∧ sU (c i) < ((6 : Nat) : Int) by omega), if_pos p1, p2]
    have a13 : mu C 6 (st i) 13 ((pE (sU (c i)).toNat : Nat) : Int) 6 (st i) 13 = ((pE (sU (c i)).toNat : Nat) : Int) := mu_at _ _ _ _ _
    rw [a13, if_pos (show 0 ≤ ((pE (sU (c i)).toNat : Nat) : Int) by omega), Int.toNat_natCast, p5, if_pos p6, p3, p4, Fb_5 c5, Ft_5 c5, if_pos c5, if_pos c5]
    refine ⟨_, rfl, fun f a j q => ?_, ?_, ?_, mu_at _ _ _ _ _, ?_⟩
    · rw [mu_ne _ _ (fun r => q ⟨r.1, r.2.1, by omega⟩), mu_ne _ _ (fun r => q ⟨r.1, r.2.1, by omega⟩), mu_ne _ _ (fun r => q ⟨r.1, r.2.1, by omega⟩), mu_ne _ _ (fun r => q ⟨r.1, r.2.1, by omega⟩)]
    · rw [mu_ne _ _ (fun r => absurd r.2.2 (by decide)), mu_ne _ _ (fun r => absurd r.2.2 (by decide)), mu_at]
    · rw [mu_ne _ _ (fun r => absurd r.2.2 (by decide)), mu_at]
    · rw [mu_ne _ _ (fun r => absurd r.2.2 (by decide)), mu_ne _ _ (fun r => absurd r.2.2 (by decide)), mu_ne _ _ (fun r => absurd r.2.2 (by decide)), mu_at]
  · rw [if_neg c5, if_neg c5, if_neg c5, Ft_o c3 c4 c5]
    refine ⟨C, rfl, fun _ _ _ _ => rfl, ?_, s8, s12, s13⟩
    rw [s7]
    by_cases c0 : sK (c i) = 0
    · rw [if_pos c0, Fb_0 c0]
    · rw [if_neg c0, Fb_o c0 c3 c4 c5]
/-- from step k on all is weighed -/
def cWd (pr N k : Nat) (st : Nat → Nat) (f a j : Nat) : Prop := (f = 6 ∧ (∃ i, k ≤ i ∧ i < N ∧ a = st i) ∧ (j = 7 ∨ j = 8 ∨ j = 12 ∨ j = 13)) ∨ (f = 2 ∧ a = pr ∧ 8 ≤ j ∧ j ≤ 11)
def cWg (pr N k : Nat) (st : Nat → Nat) (c : Nat → kS) (pE : Nat → Nat) (bE tE sE : Int → Int) (C0 C : mA) : Prop := (∀ f a j, ¬ cWd pr N k st f a j → C f a j = C0 f a j) ∧ (∀ i, k ≤ i → i < N → C 6 (st i) 7 = gv (Fb c bE) 16 i ∧ C 6 (st i) 8 = gv (Ft c tE) 16 i ∧ C 6 (st i) 12 = vSee c sE i ∧ C 6 (st i) 13 = vRan c pE i)
theorem stIs.far {C C' : mA} {i : Nat} {s : kS} (h : stIs pr ca lv lw st C i s) (h6 : ∀ j, C' 6 (st i) j = C 6 (st i) j) (hr : ∀ f a j, f = 36 ∨ f = 27 → C' f a j = C f a j) (h2 : C' 2 pr 3 = C 2 pr 3 ∧ C' 2 pr 6 = C 2 pr 6) : stIs pr ca lv lw st C' i s := by
  obtain ⟨a1, a2, a3, a4, a5, a6, a7⟩ := h
  refine ⟨by rw [h6, h6, h6, h6, h6]; exact a1, fun q => by rw [h6]; exact a2 q, by rw [h6]; exact a3, by rw [h6]; exact a4, by rw [h6, h6, h6]; exact a5, fun q1 q2 => ?_, fun q => ?_⟩
  · obtain ⟨n, b1, b2, b3, b4⟩ := a6 q1 q2
    refine ⟨n, by rw [h6]; exact b1, by rw [h6]; exact b2, by rw [h2.1]; exact b3, fun j hj => ?_⟩
    rw [hr 36 _ _ (Or.inl rfl)]
    exact b4 j hj
  · obtain ⟨n, b1, b2, b3⟩ := a7 q
    refine ⟨n, by rw [h6]; exact b1, by rw [h2.2]; exact b2, fun j hj => ?_⟩
    rw [hr 27 _ _ (Or.inr rfl), hr 27 _ _ (Or.inr rfl)]
    exact b3 j hj
theorem c_weigh17 (hst : ∀ i, i < 16 → ∀ j, j < 16 → st i = st j → i = j) (ho : okN P c N) {C0 : mA} (ht : cTb pr sa st C0) (h1 : C0 2 pr 1 = N) (hB : ∀ i, i < N → stIs pr ca lv lw st C0 i (c i)) (hE : cEl P oa pE bE tE sE C0) (hpE : ∀ u, u < P → pE u ≠ pr) : ∀ (k fuel : Nat) (C : mA), k ≤ N → k < fuel → cWg pr N k st c pE bE tE sE C0 C → C 2 pr 10 = nmS c N (N - k) → C 2 pr 11 = ssS c sE N (N - k) → (ssS c sE N (N - k) = 0 ∨ ssS c sE N (N - k) = 1) → ∃ C', f_Prog_weigh_17 fuel C pr oa ((k : Int) - 1) = some (0, C') ∧ cWg pr N 0 st c pE bE tE sE C0 C' ∧ C' 2 pr 8 = tsm (gv (Fb c bE) 16) c 16 0 N ∧ C' 2 pr 9 = tsm (gv (Ft c tE) 16) c 16 0 N ∧ C' 2 pr 10 = nmS c N N ∧ C' 2 pr 11 = ssS c sE N N ∧ (ssS c sE N N = 0 ∨ ssS c sE N N = 1) := by
  have hN := ho.1
  have lev : ∀ {C : mA} {k : Nat}, cWg pr N k st c pE bE tE sE C0 C → cLv st c N C := fun {C k} hw j hj => by
    refine ⟨?_, (ho.2.2 j hj).1.2.1⟩
    rw [hw.1 6 (st j) 4 (fun r => by
      rcases r with r | r
      · omega
      · exact absurd r.1 (by decide))]
    exact (hB j hj).1.2.2.2.2
  have tab : ∀ {C : mA} {k : Nat}, cWg pr N k st c pE bE tE sE C0 C → cTb pr sa st C := fun {C k} hw => by
    refine ⟨?_, fun i hi => ?_⟩
    · rw [hw.1 2 pr 0 (fun r => by
        rcases r with r | r
        · exact absurd r.1 (by decide)
        · omega)]
      exact ht.1
    · rw [hw.1 25 sa i (fun r => by
        rcases r with r | r
        · exact absurd r.1 (by decide)
        · exact absurd r.1 (by decide))]
      exact ht.2 i hi
  intro k
  induction k with
  | zero =>
    intro fuel C hk hf hw h10 h11 h01
    obtain ⟨fuel, rfl⟩ : ∃ q, fuel = q + 1 := ⟨fuel - 1, by omega⟩
    have s1 : C 2 pr 1 = N := by
      rw [hw.1 2 pr 1 (fun r => by
        rcases r with r | r
        · exact absurd r.1 (by decide)
        · omega)]
      exact h1
    have b1 := c_blk7 (tab hw) (lev hw) hN (v := gv (Fb c bE) 16) (Nat.le_refl N) (fun j q1 q2 => (hw.2 j q1 q2).1) ho.2.1 (x := 0) (y := C 2 pr 1) rfl s1
    rw [f_Prog_weigh_17, if_pos (show g32 _ by decide), if_pos (by decide), b1, obind]
    generalize hX : tsm (gv (Fb c bE) 16) c 16 0 N = X
    have ht1 : cTb pr sa st (mu C 2 pr 8 X) := ⟨(tab hw).1, (tab hw).2⟩
    have hl0 : cLv st c N C := lev hw
    have hl1 : cLv st c N (mu C 2 pr 8 X) := hl0
    have d1 := c_blk8 ht1 hl1 hN (v := gv (Ft c tE) 16) (Nat.le_refl N) (fun j q1 q2 => (hw.2 j q1 q2).2.1) ho.2.1 (x := 0) (y := C 2 pr 1) rfl s1
    show ∃ C', Option.bind (f_Prog_turnsOf (mu C 2 pr 8 X) pr 0 (C 2 pr 1)) _ = _ ∧ _
    rw [d1, obind]
    dsimp only
    refine ⟨_, rfl, ⟨fun f a j q => ?_, fun i q1 q2 => hw.2 i q1 q2⟩, ?_, mu_at _ _ _ _ _, h10, h11, h01⟩
    · rw [mu_ne _ _ (fun r => q (Or.inr ⟨r.1, r.2.1, by omega, by omega⟩)), mu_ne _ _ (fun r => q (Or.inr ⟨r.1, r.2.1, by omega, by omega⟩))]
      exact hw.1 f a j q
    · rw [mu_ne _ _ (fun r => absurd r.2.2 (by decide)), mu_at]
  | succ k ih =>
    intro fuel C hk hf hw h10 h11 h01
    obtain ⟨fuel, rfl⟩ : ∃ q, fuel = q + 1 := ⟨fuel - 1, by omega⟩
    have ek : ((k + 1 : Nat) : Int) - 1 = (k : Int) := by omega
    have fz : ∀ j, ¬ (8 ≤ j ∧ j ≤ 11) → C 2 pr j = C0 2 pr j := fun j q => hw.1 2 pr j (fun r => by
      rcases r with r | r
      · exact absurd r.1 (by decide)
      · exact q r.2.2)
    have B1 : stIs pr ca lv lw st C k (c k) := (hB k (by omega)).far (fun j => hw.1 6 (st k) j (fun r => by
      rcases r with ⟨-, ⟨i, r1, r2, r3⟩, -⟩ | r
      · have := hst k (by omega) i (by omega) r3
        omega
      · exact absurd r.1 (by decide))) (fun f a j q => hw.1 f a j (fun r => by
      rcases r with r | r
      · omega
      · omega)) ⟨fz 3 (by decide), fz 6 (by decide)⟩
    have E1 : cEl P oa pE bE tE sE C := ⟨hE.1, fun u hu => by
      obtain ⟨p1, p2, ⟨p3, p4, p5⟩, p6⟩ := hE.2 u hu
      have e21 : C 21 oa u = C0 21 oa u := hw.1 21 oa u (fun r => by
        rcases r with r | r
        · exact absurd r.1 (by decide)
        · exact absurd r.1 (by decide))
      have e2 : ∀ j, C 2 (pE u) j = C0 2 (pE u) j := fun j => hw.1 2 (pE u) j (fun r => by
        rcases r with r | r
        · exact absurd r.1 (by decide)
        · exact hpE u hu r.2.1)
      rw [e21, e2, e2, e2]
      exact ⟨p1, p2, ⟨p3, p4, p5⟩, p6⟩⟩
    obtain ⟨C1, x1, x2, x7, x8, x12, x13⟩ := c_wstep hst ho (tab hw) (lev hw) (show k < N by omega) B1 (fun j q1 q2 => (hw.2 j (by omega) q2).1) (fun j q1 q2 => (hw.2 j (by omega) q2).2.1) E1
    rw [ek, f_Prog_weigh_17, if_pos (show g32 (k : Int) by unfold g32; omega), if_neg (by omega), c_at (tab hw) (show k < 16 by omega), obind]
    show ∃ C', Option.bind (f_Prog_weighStep C pr ((st k : Nat) : Int).toNat k oa) _ = _ ∧ _
    rw [Int.toNat_natCast, x1, obind]
    simp only [Int.toNat_natCast]
    have n1 : C1 6 (st k) 1 = sN (c k) := (x2 6 (st k) 1 (fun r => by omega)).trans B1.1.2.1
    have n6 : C1 6 (st k) 6 = kSee 0 (sC (c k)) := (x2 6 (st k) 6 (fun r => by omega)).trans B1.2.2.1
    have c10 : C1 2 pr 10 = nmS c N (N - (k + 1)) := (x2 2 pr 10 (fun r => absurd r.1 (by decide))).trans h10
    have c11 : C1 2 pr 11 = ssS c sE N (N - (k + 1)) := (x2 2 pr 11 (fun r => absurd r.1 (by decide))).trans h11
    have hk9 : N - 1 - (N - (k + 1)) = k := by omega
    have en : nmS c N (N - k) = iOr (nmS c N (N - (k + 1))) (iOr (kSee 0 (sC (c k))) (if sN (c k) = -1 then 0 else iShl 1 (sN (c k)))) := by
      have : N - k = (N - (k + 1)) + 1 := by omega
      rw [this, nmS, hk9]
    have es : ssS c sE N (N - k) = iOr (ssS c sE N (N - (k + 1))) (vSee c sE k) := by
      have : N - k = (N - (k + 1)) + 1 := by omega
      rw [this, ssS, hk9]
    have v01 : vSee c sE k = 0 ∨ vSee c sE k = 1 := by
      unfold vSee
      by_cases q2 : sK (c k) = 2
      · rw [if_pos q2]; exact Or.inr rfl
      rw [if_neg q2]
      by_cases q5 : sK (c k) = 5
      · rw [if_pos q5]
        obtain ⟨u1, u2⟩ := (ho.2.2 k (by omega)).1.2.2.2.2.2.1 q5
        have := (hE.2 (sU (c k)).toNat (by omega)).2.2.2.2.2
        rw [Int.toNat_of_nonneg u1] at this
        exact this
      · rw [if_neg q5]; exact Or.inl rfl
    have o01 := iOrZ h01 v01
    have nr : sN (c k) = -1 ∨ 0 ≤ sN (c k) ∧ sN (c k) ≤ 5 := (ho.2.2 k (by omega)).1.2.2.2.2.2.2.2
    have next : ∀ X : Int, X = nmS c N (N - k) → ∃ C', f_Prog_weigh_17 fuel (mu (mu C1 2 pr 10 X) 2 pr 11 (ssS c sE N (N - k))) pr oa ((k : Int) + -1) = some (0, C') ∧ cWg pr N 0 st c pE bE tE sE C0 C' ∧ C' 2 pr 8 = tsm (gv (Fb c bE) 16) c 16 0 N ∧ C' 2 pr 9 = tsm (gv (Ft c tE) 16) c 16 0 N ∧ C' 2 pr 10 = nmS c N N ∧ C' 2 pr 11 = ssS c sE N N ∧ (ssS c sE N N = 0 ∨ ssS c sE N N = 1) := fun X hX => by
      refine ih fuel _ (by omega) (by omega) ⟨fun f a j q => ?_, fun i q1 q2 => ?_⟩ ?_ (mu_at _ _ _ _ _) (by rw [es]; exact o01)
      · rw [mu_ne _ _ (fun r => q (Or.inr ⟨r.1, r.2.1, by omega, by omega⟩)), mu_ne _ _ (fun r => q (Or.inr ⟨r.1, r.2.1, by omega, by omega⟩)), x2 f a j (fun r => q (Or.inl ⟨r.1, ⟨k, Nat.le_refl k, by omega, r.2.1⟩, r.2.2⟩))]
        exact hw.1 f a j (fun r => q (by
          rcases r with ⟨r1, ⟨i, r2, r3, r4⟩, r5⟩ | r
          · exact Or.inl ⟨r1, ⟨i, by omega, r3, r4⟩, r5⟩
          · exact Or.inr r))
      · show C1 6 (st i) 7 = _ ∧ C1 6 (st i) 8 = _ ∧ C1 6 (st i) 12 = _ ∧ C1 6 (st i) 13 = _
        by_cases e : i = k
        · rw [e]
          exact ⟨x7, x8, x12, x13⟩
        · have ne : ∀ j, C1 6 (st i) j = C 6 (st i) j := fun j => x2 6 (st i) j (fun r => by
            have := hst i (by omega) k (by omega) r.2.1
            omega)
          rw [ne, ne, ne, ne]
          exact hw.2 i (by omega) q2
      · rw [mu_ne _ _ (fun r => absurd r.2.2 (by decide)), mu_at]
        exact hX
    rw [n1, if_pos (show g32 _ by unfold g32; omega), n6, x12, c10, c11, ← es]
    by_cases q : sN (c k) = -1
    · rw [if_pos q, if_pos (by rw [es]; exact o01)]
      refine next _ ?_
      rw [en, if_pos q]
    · rw [if_neg q, if_pos (by rw [es]; exact o01)]
      refine next _ ?_
      rw [en, if_neg q]
/-- what the class weighs -/
theorem c_weigh (hst : ∀ i, i < 16 → ∀ j, j < 16 → st i = st j → i = j) (ho : okN P c N) {C : mA} (ht : cTb pr sa st C) (h1 : C 2 pr 1 = N) (hB : ∀ i, i < N → stIs pr ca lv lw st C i (c i)) (hE : cEl P oa pE bE tE sE C) (hpE : ∀ u, u < P → pE u ≠ pr) : ∃ C', f_Prog_weigh C pr oa = some (0, C') ∧ cWg pr N 0 st c pE bE tE sE C C' ∧ C' 2 pr 8 = tsm (gv (Fb c bE) 16) c 16 0 N ∧ C' 2 pr 9 = tsm (gv (Ft c tE) 16) c 16 0 N ∧ C' 2 pr 10 = nmS c N N ∧ C' 2 pr 11 = ssS c sE N N ∧ (ssS c sE N N = 0 ∨ ssS c sE N N = 1) := by
  have hN := ho.1
  unfold f_Prog_weigh
  rw [h1]
  refine c_weigh17 hst ho ht h1 hB hE hpE N 20 _ (Nat.le_refl N) (by omega) ⟨fun f a j q => ?_, fun i q1 q2 => by omega⟩ ?_ ?_ ?_
  · rw [mu_ne _ _ (fun r => q (Or.inr ⟨r.1, r.2.1, by omega, by omega⟩)), mu_ne _ _ (fun r => q (Or.inr ⟨r.1, r.2.1, by omega, by omega⟩))]
  · rw [Nat.sub_self, mu_ne _ _ (fun r => absurd r.2.2 (by decide)), mu_at]
    rfl
  · rw [Nat.sub_self, mu_at]
    rfl
  · rw [Nat.sub_self]
    exact Or.inl rfl
end WG
