/-! faces that ask for odds: state, fold, likeliest of both (own work) -/
theorem iOr_z {X : Int} (h : 0 ≤ X ∧ X < 16777216) : iOr X 0 = X := by
  have e : (Int32.ofInt X ||| Int32.ofInt 0).toBitVec.toNat = X.toNat := by
    show ((Int32.ofInt X).toBitVec ||| (Int32.ofInt 0).toBitVec).toNat = _
    rw [BitVec.toNat_or, bv_of h.1 (by omega)]
    show X.toNat ||| 0 = _
    rw [Nat.or_zero]
  unfold iOr
  rw [i32_small rfl (by rw [e]; omega), e]
  omega
/-- a name's place that is empty takes its digit -/
theorem pk_one {s v : Int} {n : Nat} {d : Nat → Int} (h : st9 s d) (hn : n < 6) (h0 : d n = 0) (hv : 0 ≤ v ∧ v ≤ 9) : iOr s (iShl v ((5 - (n : Int)) * 4)) = wd s n v := by
  obtain ⟨r1, r2⟩ := wD_ok (s := s) (n := (n : Int)) (v := 0) h.1 (by omega) (by decide)
  have z : iShl 0 ((5 - (n : Int)) * 4) = 0 := by
    have : n = 0 ∨ n = 1 ∨ n = 2 ∨ n = 3 ∨ n = 4 ∨ n = 5 := by omega
    rcases this with rfl | rfl | rfl | rfl | rfl | rfl <;> decide
  obtain ⟨X, hX⟩ : ∃ X, X = iAnd s (iXor (iShl 15 ((5 - (n : Int)) * 4)) (-1)) := ⟨_, rfl⟩
  rw [← hX, z] at r1 r2
  have hXr : 0 ≤ X ∧ X < 16777216 := by
    have hle : X.toNat ≤ s.toNat ∧ 0 ≤ X := by
      have q : ((Int32.ofInt s &&& Int32.ofInt (iXor (iShl 15 ((5 - (n : Int)) * 4)) (-1)))).toBitVec.toNat ≤ s.toNat := by
        show ((Int32.ofInt s).toBitVec &&& _).toNat ≤ _
        rw [BitVec.toNat_and, bv_of h.1.1 (by have := h.1.2; omega)]
        exact Nat.and_le_left
      have e : X = ((Int32.ofInt s &&& Int32.ofInt (iXor (iShl 15 ((5 - (n : Int)) * 4)) (-1))).toBitVec.toNat : Int) := by
        rw [hX]
        unfold iAnd
        exact i32_small rfl (by have := h.1; omega)
      constructor
      · rw [e, Int.toNat_natCast]; exact q
      · rw [e]; exact Int.natCast_nonneg _
    have := h.1
    omega
  rw [iOr_z hXr] at r1 r2
  have sX : st9 X d := ⟨hXr, fun j hj => by
    rw [r2 j hj]
    by_cases e : j = n
    · subst e
      rw [Int.toNat_natCast, if_pos rfl, h0]
      decide
    · rw [Int.toNat_natCast, if_neg e]
      exact h.2 j hj⟩
  unfold wd
  rw [← hX, sX.ext h]
theorem c_packed {C : mA} {s : Int} (h : 0 ≤ s ∧ s ≤ 999999) : ∃ p, f_CS_packed C s = some (p, C) ∧ vs9 p ∧ ud p = s := by
  -- the digits from behind
  have step : ∀ (F n : Nat) (M R : Int) (d : Nat → Int), n < 6 → st9 M d → d n = 0 → 0 ≤ R ∧ R ≤ 999999 → f_CS_packed_6 (F + 1) C M R n = f_CS_packed_6 F C (wd M n (R % 10)) (R / 10) ((n : Int) - 1) := fun F n M R d hn hM h0 hR => by
    conv => lhs; unfold f_CS_packed_6
    rw [if_pos (show g32 (n : Int) by unfold g32; omega), if_neg (show ¬ (n : Int) < 0 by omega), if_pos (show g32 R by unfold g32; omega)]
    show f_CS_packed_6 F C (iOr M (iShl (Int.tmod R 10) ((5 - (n : Int)) * 4))) (Int.tdiv R 10) ((n : Int) + -1) = _
    rw [Int.tmod_eq_emod_of_nonneg hR.1, Int.tdiv_eq_ediv_of_nonneg hR.1, pk_one hM hn h0 (by omega)]
    rfl
  have s0 : st9 0 (fun _ => 0) := ⟨by decide, fun j _ => ⟨by unfold nb9; split <;> rfl, Int.le_refl 0, (by show (0 : Int) ≤ 9; decide)⟩⟩
  have w : ∀ {M : Int} {d : Nat → Int} (hM : st9 M d) (n : Nat) (v : Int), n < 6 → 0 ≤ v ∧ v ≤ 9 → st9 (wd M n v) (fun j => if j = n then v else d j) := fun hM n v hn hv => by
    have := st9_wd hM (n := (n : Int)) (v := v) (by omega) hv
    rw [Int.toNat_natCast] at this
    exact this
  have a5 := w s0 5 (s % 10) (by decide) (by omega)
  have a4 := w a5 4 (s / 10 % 10) (by decide) (by omega)
  have a3 := w a4 3 (s / 10 / 10 % 10) (by decide) (by omega)
  have a2 := w a3 2 (s / 10 / 10 / 10 % 10) (by decide) (by omega)
  have a1 := w a2 1 (s / 10 / 10 / 10 / 10 % 10) (by decide) (by omega)
  have a0 := w a1 0 (s / 10 / 10 / 10 / 10 / 10 % 10) (by decide) (by omega)
  refine ⟨_, ?_, vs9.of a0, ?_⟩
  · unfold f_CS_packed
    show f_CS_packed_6 20 C 0 s ((5 : Nat) : Int) = _
    rw [step 19 5 0 s _ (by decide) s0 rfl (by omega)]
    show f_CS_packed_6 19 C _ (s / 10) ((4 : Nat) : Int) = _
    rw [step 18 4 _ (s / 10) _ (by decide) a5 rfl (by omega)]
    show f_CS_packed_6 18 C _ (s / 10 / 10) ((3 : Nat) : Int) = _
    rw [step 17 3 _ (s / 10 / 10) _ (by decide) a4 rfl (by omega)]
    show f_CS_packed_6 17 C _ (s / 10 / 10 / 10) ((2 : Nat) : Int) = _
    rw [step 16 2 _ (s / 10 / 10 / 10) _ (by decide) a3 rfl (by omega)]
    show f_CS_packed_6 16 C _ (s / 10 / 10 / 10 / 10) ((1 : Nat) : Int) = _
    rw [step 15 1 _ (s / 10 / 10 / 10 / 10) _ (by decide) a2 rfl (by omega)]
    show f_CS_packed_6 15 C _ (s / 10 / 10 / 10 / 10 / 10) ((0 : Nat) : Int) = _
    rw [step 14 0 _ (s / 10 / 10 / 10 / 10 / 10) _ (by decide) a1 rfl (by omega)]
    rfl
  · unfold ud
    rw [dsum_cg (fun j hj => (a0.2 j hj).1)]
    show 100000 * (s / 10 / 10 / 10 / 10 / 10 % 10) + 10000 * (s / 10 / 10 / 10 / 10 % 10) + 1000 * (s / 10 / 10 / 10 % 10) + 100 * (s / 10 / 10 % 10) + 10 * (s / 10 % 10) + s % 10 = s
    omega
/-- a fold of a value -/
def fdV (kd v : Int) : Int := if kd = 0 then v else if kd = 1 then v * v else if kd = 2 then 1 - Int.tmod v 2 else if kd = 3 then v * v * v else if kd = 4 then Int.tmod v 2 else 9 - v
theorem fdV_r {kd : Int} {v : Nat} (hv : v < 10) : 0 ≤ fdV kd v ∧ fdV kd v ≤ 729 := by
  have hv' : v = 0 ∨ v = 1 ∨ v = 2 ∨ v = 3 ∨ v = 4 ∨ v = 5 ∨ v = 6 ∨ v = 7 ∨ v = 8 ∨ v = 9 := by omega
  unfold fdV
  rcases hv' with rfl | rfl | rfl | rfl | rfl | rfl | rfl | rfl | rfl | rfl <;> (repeat' split) <;> decide
theorem c_fold {C : mA} {kd : Int} {v : Nat} (gk : g32 kd) (hv : v < 10) : f_CS_foldedBy C kd v = some (fdV kd v, C) := by
  have r := fdV_r (kd := kd) hv
  have gv : g32 (v : Int) := by unfold g32; omega
  unfold fdV at r ⊢
  unfold f_CS_foldedBy
  rw [if_pos gk]
  by_cases c0 : kd = 0
  · rw [if_pos c0] at r ⊢
    rw [if_pos c0, if_pos gv]
  rw [if_neg c0] at r ⊢
  rw [if_neg c0]
  by_cases c1 : kd = 1
  · rw [if_pos c1] at r ⊢
    rw [if_pos c1, if_pos (show g32 ((v : Int) * v) by unfold g32; omega)]
  rw [if_neg c1] at r ⊢
  rw [if_neg c1]
  by_cases c2 : kd = 2
  · rw [if_pos c2] at r ⊢
    rw [if_pos c2, if_pos gv, if_pos (show g32 (1 - Int.tmod (v : Int) 2) by unfold g32; omega)]
  rw [if_neg c2] at r ⊢
  rw [if_neg c2]
  by_cases c3 : kd = 3
  · rw [if_pos c3] at r ⊢
    rw [if_pos c3, if_pos (show g32 ((v : Int) * v * v) by unfold g32; omega)]
  rw [if_neg c3] at r ⊢
  rw [if_neg c3]
  by_cases c4 : kd = 4
  · rw [if_pos c4] at r ⊢
    rw [if_pos c4, if_pos gv, if_pos (show g32 (Int.tmod (v : Int) 2) by unfold g32; omega)]
  rw [if_neg c4] at r ⊢
  rw [if_neg c4, if_pos (show g32 (9 - (v : Int)) by unfold g32; omega)]
theorem m_fold {A : mA} {kd : Int} {v : Nat} (gk : g32 kd) (hv : v < 10) : f_Mo_foldI A kd v = some (fdV kd v, A) := by
  have gv : g32 (v : Int) := by unfold g32; omega
  unfold fdV f_Mo_foldI
  rw [if_pos gk]
  by_cases c0 : kd = 0
  · rw [if_pos c0, if_pos c0]
  rw [if_neg c0, if_neg c0]
  by_cases c1 : kd = 1
  · rw [if_pos c1, if_pos c1]
  rw [if_neg c1, if_neg c1]
  by_cases c2 : kd = 2
  · rw [if_pos c2, if_pos c2, if_pos gv]
  rw [if_neg c2, if_neg c2]
  by_cases c3 : kd = 3
  · rw [if_pos c3, if_pos c3]
  rw [if_neg c3, if_neg c3]
  by_cases c4 : kd = 4
  · rw [if_pos c4, if_pos c4, if_pos gv]
  rw [if_neg c4, if_neg c4]
/-- sums of folds -/
def fdS (kd : Int) (f : Nat → Int) : Nat → Int
  | 0 => 0
  | n + 1 => fdS kd f n + fdV kd n * f n
def psm (f : Nat → Int) : Nat → Int
  | 0 => 0
  | n + 1 => psm f n + f n
theorem fdS_r {kd : Int} {f : Nat → Int} (hf : ∀ v, v < 10 → 0 ≤ f v) : ∀ n, n ≤ 10 → 0 ≤ fdS kd f n ∧ fdS kd f n ≤ 729 * psm f n := by
  intro n
  induction n with
  | zero => intro _; exact ⟨Int.le_refl _, Int.le_refl _⟩
  | succ n ih =>
    intro hn
    obtain ⟨i1, i2⟩ := ih (by omega)
    obtain ⟨r1, r2⟩ := fdV_r (kd := kd) (v := n) (by omega)
    have h0 := hf n (by omega)
    have p1 : 0 ≤ fdV kd n * f n := Int.mul_nonneg r1 h0
    have p2 : fdV kd n * f n ≤ 729 * f n := Int.mul_le_mul_of_nonneg_right r2 h0
    show 0 ≤ fdS kd f n + fdV kd n * f n ∧ fdS kd f n + fdV kd n * f n ≤ 729 * (psm f n + f n)
    rw [Int.mul_add]
    omega
theorem psm_10 {f : Nat → Int} : psm f 10 = s10 f := by
  show 0 + f 0 + f 1 + f 2 + f 3 + f 4 + f 5 + f 6 + f 7 + f 8 + f 9 = f 0 + f 1 + f 2 + f 3 + f 4 + f 5 + f 6 + f 7 + f 8 + f 9
  omega
theorem m_foldGo {A : mA} {o N : Nat} {kd t : Int} (hq : oQ A o) (hn : N < 6) (gk : g32 kd) : ∀ (F j : Nat), j ≤ 10 → 10 - j < F → f_Mo_fold_65 F A N kd t o (fdS kd (fun v => xwN (oC A o) N ((v : Nat) : Int)) j) j = Option.bind (f_Odds_all A o) (fun q3 => Option.bind (f_Mo_lowest q3.2 (fdS kd (fun v => xwN (oC A o) N ((v : Nat) : Int)) 10) q3.1 t) (fun q5 => some (q5.1, q5.2))) := by
  intro F
  induction F with
  | zero => intro j _ h; omega
  | succ F ih =>
    intro j h1 h2
    unfold f_Mo_fold_65
    rw [if_pos (show g32 (j : Int) by unfold g32; omega)]
    by_cases z : 10 ≤ j
    · have : j = 10 := by omega
      subst this
      rw [if_pos (show (10 : Int) ≤ ((10 : Nat) : Int) by omega)]
    · have hj : j < 10 := by omega
      have r := fdV_r (kd := kd) hj
      rw [if_neg (show ¬ (10 : Int) ≤ (j : Int) by omega), m_fold gk hj, obind]
      dsimp only
      rw [if_pos (show g32 (fdV kd j) by unfold g32; omega), m_wOf hq hn (show g32 (j : Int) by unfold g32; omega), obind, show ((j : Int) + 1) = ((j + 1 : Nat) : Int) by omega]
      exact ih (j + 1) hj (by omega)
theorem c_foldGo {C C' : mA} {G : tG} {k x cr N : Nat} {kd t : Int} {l : List xE} {Q : wQ} (hc : CWs C cr l) (hrow : ∀ v : Nat, v < 10 → C 23 (C 8 x 11).toNat v = xwN l N ((v : Nat) : Int)) (gk : g32 kd) (hQ : ∀ z, f_CS_partOf C (fdS kd (fun v => xwN l N ((v : Nat) : Int)) 10) (tot l) t = some (z, C) → Q z C G k) (hz : ∃ z, f_CS_partOf C (fdS kd (fun v => xwN l N ((v : Nat) : Int)) 10) (tot l) t = some (z, C)) : ∀ (F j : Nat), j ≤ 10 → 10 - j < F → w_CS_fold_76 F k G C x kd t cr (fdS kd (fun v => xwN l N ((v : Nat) : Int)) j) j Q := by
  intro F
  induction F with
  | zero => intro j _ h; omega
  | succ F ih =>
    intro j h1 h2
    unfold w_CS_fold_76
    rw [if_pos (show g32 (j : Int) by unfold g32; omega)]
    by_cases z : 10 ≤ j
    · have : j = 10 := by omega
      subst this
      rw [if_pos (show (10 : Int) ≤ ((10 : Nat) : Int) by omega)]
      obtain ⟨y, hy⟩ := hz
      exact ⟨_, c_weight hc, _, hy, hQ y hy⟩
    · have hj : j < 10 := by omega
      rw [if_neg (show ¬ (10 : Int) ≤ (j : Int) by omega), if_pos (show 0 ≤ (j : Int) ∧ (j : Int) < ((10 : Nat) : Int) by omega)]
      refine ⟨_, c_fold gk hj, ?_⟩
      dsimp only
      rw [Int.toNat_natCast, hrow j hj, Int.mul_comm, show ((j : Int) + 1) = ((j + 1 : Nat) : Int) by omega]
      exact ih (j + 1) hj (by omega)
section FLK
variable {D : va_G} {Gt G : tG} {C A : mA} {w : jW} {x sl hm k : Nat} {T : xT}
theorem state_both (hw : hW D Gt C w) (gx : Gt x = some 8) (h : R9 x C A) (hx : WX x G C A T sl hm) {p s t : Int} (gp : g32 p) (gs : g32 s) (gt : g32 t) (hk : rmK x C ≤ k) : FB x G C A T sl hm k (f_Mo_state A p s t) (w_CS_state k G C x p s t) := by
  obtain ⟨-, ⟨b1, b2, b3⟩, -⟩ := id h.1.1
  unfold f_Mo_state w_CS_state
  have g1 : g32 (1 : Int) := by decide
  have g0 : g32 (0 : Int) := by decide
  have n1 : ¬ (1 : Int) = 0 := by decide
  rw [m_isProg ⟨b2, b3⟩ gp, obind]
  by_cases q1 : 0 ≤ p ∧ p < A 0 0 0
  · rw [if_pos q1]
    dsimp only
    rw [if_pos g1, if_neg n1, m_inF gs (by decide) (by decide), obind]
    by_cases q2 : 0 ≤ s ∧ s ≤ 999999
    · rw [if_pos q2]
      dsimp only
      rw [if_pos g1, if_neg n1, m_inF gt (by decide) (by decide), obind]
      by_cases q4 : 0 ≤ t ∧ t ≤ 1
      · rw [if_pos q4]
        dsimp only
        rw [if_pos g1, if_neg n1]
        obtain ⟨P, rfl⟩ : ∃ P : Nat, p = P := ⟨p.toNat, by omega⟩
        refine FB.ofEnd hw gx h hx q1.2 hk (Fc := fun A' => (Option.bind (f_Mo_against A' 1) (fun q27 => (if g32 q27.1 then (if q27.1 = 0 then (f_Mo_state_59 310 q27.2 s t 1 0 0) else (some ((-4611686018427387904), q27.2))) else none)))) (Wc := fun r12 A13 G14 k15 Q => (if 0 ≤ r12 then (if g32 (A13 0 r12.toNat 2) then (if (A13 0 r12.toNat 2) = 0 then (Q (-4611686018427387904) A13 G14 k15) else (∃ q24, f_CS_packed A13 s = some q24 ∧ (∃ q26, f_Crowd_weightOf q24.2 r12.toNat q24.1 = some q26 ∧ (∃ q28, f_Crowd_weight q26.2 r12.toNat = some q28 ∧ (∃ q30, f_CS_partOf q28.2 q26.1 q28.1 t = some q30 ∧ (Q q30.1 q30.2 G14 k15)))))) else False) else (Q (-4611686018427387904) A13 G14 k15))) (fun A' e => by rw [e, obind]; rfl) (fun Q hQ => ?_) (fun A' e => ?_) (fun A' e hq hg => ?_)
        · refine ⟨_, c_isProg h.1.1 gp, ?_⟩
          rw [if_pos q1]
          dsimp only
          rw [if_pos g1, if_neg n1, if_pos gs, if_neg (show ¬ s < 0 by omega), if_neg (show ¬ 1000000 ≤ s by omega)]
          refine ⟨_, c_isPart gt, ?_⟩
          rw [if_pos q4]
          dsimp only
          rw [if_pos g1, if_neg n1]
          exact hQ
        · unfold f_Mo_against
          rw [e, if_pos g1, if_neg n1, obind]
          exact ⟨_, rfl, fun _ _ _ _ hQ => by rw [if_neg (by decide)]; exact hQ⟩
        · have many := oC_many hq
          have hl := hq.1
          unfold f_Mo_against
          rw [e, if_pos g0, if_pos rfl, if_pos (show g32 (A' 1 1 2) by unfold g32; omega)]
          by_cases z : A' 1 1 2 = 0
          · rw [if_pos z, obind]
            refine ⟨_, rfl, fun C9 G9 k9 cr l Q hc hgl hp _ hQ => ?_⟩
            have m0 := many0 hc hq hp
            rw [if_pos (Int.natCast_nonneg cr), Int.toNat_natCast, m0, if_pos (show g32 (A' 1 1 2) by unfold g32; omega), if_pos z]
            exact hQ C9 (fun _ _ _ _ => rfl)
          · rw [if_neg z, obind]
            dsimp only
            have tp := hg.totp (by omega)
            have t0 := hg.tot0
            have sb : 0 ≤ smx (oC A' 1) s ∧ smx (oC A' 1) s ≤ tot (oC A' 1) := by
              have : smx (oC A' 1) s = tot ((oC A' 1).filter (fun q => q.1 == s)) := by
                generalize oC A' 1 = L
                induction L with
                | nil => rfl
                | cons y L ih =>
                  show (if y.1 = s then y.2 else 0) + smx L s = _
                  by_cases c : y.1 = s
                  · rw [if_pos c, List.filter_cons_of_pos (by simp [c]), ih]; rfl
                  · rw [if_neg c, List.filter_cons_of_neg (by simp [c]), ih]; omega
              rw [this]
              exact tot_filter hg.nn
            have gs' : f_Mo_state_59 310 A' s t 1 0 0 = _ := m_stateO (p := t) hq gs 310 0 0 (Nat.zero_le _) (by have := hq.1; have e9 : (oC A' 1).length = (A' 1 1 2).toNat := oC_len; omega) (by rw [List.drop_zero, Int.zero_add]) (fun y => absurd rfl y)
            rw [if_pos g0, if_pos rfl, gs', m_allO hq, obind]
            dsimp only
            rw [(low_both (C := A') (a := smx (oC A' 1) s) (b := tot (oC A' 1)) gt (by omega) (by omega)).2, obind]
            refine ⟨_, rfl, fun C9 G9 k9 cr l Q hc hgl hp _ hQ => ?_⟩
            have m0 := many0 hc hq hp
            obtain ⟨pp, p1, p2, p3⟩ := c_packed (C := C9) q2
            rw [if_pos (Int.natCast_nonneg cr), Int.toNat_natCast, m0, if_pos (show g32 (A' 1 1 2) by unfold g32; omega), if_neg z]
            refine ⟨_, p1, _, c_weightOf hc hgl.1 p2, _, c_weight hc, _, (low_both (A := A') (a := smx l (ud pp)) (b := tot l) gt (by rw [p3, ← sm_perm hp]; omega) (by rw [← tot_perm hp]; omega)).1, ?_⟩
            dsimp only
            rw [p3, ← sm_perm hp, ← tot_perm hp]
            exact hQ C9 (fun _ _ _ _ => rfl)
      · rw [if_neg q4]
        refine FB.stop h hx rfl (fun Q hQ => ⟨_, c_isProg h.1.1 gp, ?_⟩)
        rw [if_pos q1]
        dsimp only
        rw [if_pos g1, if_neg n1, if_pos gs, if_neg (show ¬ s < 0 by omega), if_neg (show ¬ 1000000 ≤ s by omega)]
        refine ⟨_, c_isPart gt, ?_⟩
        rw [if_neg q4]
        dsimp only
        rw [if_pos g0, if_pos rfl]
        exact hQ
    · rw [if_neg q2]
      refine FB.stop h hx rfl (fun Q hQ => ⟨_, c_isProg h.1.1 gp, ?_⟩)
      rw [if_pos q1]
      dsimp only
      rw [if_pos g1, if_neg n1, if_pos gs]
      by_cases c : s < 0
      · rw [if_pos c]; exact hQ
      · rw [if_neg c, if_pos (show 1000000 ≤ s by omega)]; exact hQ
  · rw [if_neg q1]
    refine FB.stop h hx rfl (fun Q hQ => ⟨_, c_isProg h.1.1 gp, ?_⟩)
    rw [if_neg q1]
    dsimp only
    rw [if_pos g0, if_pos rfl]
    exact hQ
theorem fold_both (hw : hW D Gt C w) (gx : Gt x = some 8) (h : R9 x C A) (hx : WX x G C A T sl hm) {p n v t : Int} (gp : g32 p) (gn : g32 n) (gv : g32 v) (gt : g32 t) (hk : rmK x C ≤ k) : FB x G C A T sl hm k (f_Mo_fold A p n v t) (w_CS_fold k G C x p n v t) := by
  obtain ⟨-, ⟨b1, b2, b3⟩, -⟩ := id h.1.1
  unfold f_Mo_fold w_CS_fold
  have g1 : g32 (1 : Int) := by decide
  have g0 : g32 (0 : Int) := by decide
  have n1 : ¬ (1 : Int) = 0 := by decide
  rw [m_isProg ⟨b2, b3⟩ gp, obind]
  by_cases q1 : 0 ≤ p ∧ p < A 0 0 0
  · rw [if_pos q1]
    dsimp only
    rw [if_pos g1, if_neg n1, m_isName gn, obind]
    by_cases q2 : 0 ≤ n ∧ n ≤ 5
    · have q2' : 0 ≤ n ∧ n < 6 := by omega
      rw [if_pos q2]
      dsimp only
      rw [if_pos g1, if_neg n1, m_inF gv (by decide) (by decide), obind]
      by_cases q3 : 0 ≤ v ∧ v ≤ 5
      · rw [if_pos q3]
        dsimp only
        rw [if_pos g1, if_neg n1, m_inF gt (by decide) (by decide), obind]
        by_cases q4 : 0 ≤ t ∧ t ≤ 1
        · rw [if_pos q4]
          dsimp only
          rw [if_pos g1, if_neg n1]
          obtain ⟨P, rfl⟩ : ∃ P : Nat, p = P := ⟨p.toNat, by omega⟩
          obtain ⟨N, rfl⟩ : ∃ N : Nat, n = N := ⟨n.toNat, by omega⟩
          refine FB.ofEnd hw gx h hx q1.2 hk (Fc := fun A' => (Option.bind (f_Mo_against A' 1) (fun q31 => (if g32 q31.1 then (if q31.1 = 0 then (f_Mo_fold_65 20 q31.2 N v t 1 0 0) else (some ((-4611686018427387904), q31.2))) else none)))) (Wc := fun r26 A27 G28 k29 Q => (if 0 ≤ r26 then (if g32 (A27 0 r26.toNat 2) then (if (A27 0 r26.toNat 2) = 0 then (Q (-4611686018427387904) A27 G28 k29) else (∃ q39, f_Crowd_spread A27 r26.toNat N ((A27 8 x 11).toNat) = some q39 ∧ (w_CS_fold_76 20 k29 G28 q39.2 x v t r26.toNat 0 0 Q))) else False) else (Q (-4611686018427387904) A27 G28 k29))) (fun A' e => by rw [e, obind]; rfl) (fun Q hQ => ?_) (fun A' e => ?_) (fun A' e hq hg => ?_)
          · refine ⟨_, c_isProg h.1.1 gp, ?_⟩
            rw [if_pos q1]
            dsimp only
            rw [if_pos g1, if_neg n1]
            refine ⟨_, c_isName gn, ?_⟩
            rw [if_pos q2']
            dsimp only
            rw [if_pos g1, if_neg n1, if_pos gv, if_neg (show ¬ v < 0 by omega), if_neg (show ¬ 5 < v by omega)]
            refine ⟨_, c_isPart gt, ?_⟩
            rw [if_pos q4]
            dsimp only
            rw [if_pos g1, if_neg n1]
            exact hQ
          · unfold f_Mo_against
            rw [e, if_pos g1, if_neg n1, obind]
            exact ⟨_, rfl, fun _ _ _ _ hQ => by rw [if_neg (by decide)]; exact hQ⟩
          · have many := oC_many hq
            have hl := hq.1
            unfold f_Mo_against
            rw [e, if_pos g0, if_pos rfl, if_pos (show g32 (A' 1 1 2) by unfold g32; omega)]
            by_cases z : A' 1 1 2 = 0
            · rw [if_pos z, obind]
              refine ⟨_, rfl, fun C9 G9 k9 cr l Q hc hgl hp _ hQ => ?_⟩
              have m0 := many0 hc hq hp
              rw [if_pos (Int.natCast_nonneg cr), Int.toNat_natCast, m0, if_pos (show g32 (A' 1 1 2) by unfold g32; omega), if_pos z]
              exact hQ C9 (fun _ _ _ _ => rfl)
            · rw [if_neg z, obind]
              dsimp only
              have tp := hg.totp (by omega)
              have t0 := hg.tot0
              have fr : 0 ≤ fdS v (fun u => xwN (oC A' 1) N ((u : Nat) : Int)) 10 ∧ fdS v (fun u => xwN (oC A' 1) N ((u : Nat) : Int)) 10 < 4611686018427387904 := by
                have := fdS_r (kd := v) (f := fun u => xwN (oC A' 1) N ((u : Nat) : Int)) (fun u _ => (xwN_nn hg.nn N _).1) 10 (Nat.le_refl _)
                rw [psm_10, xwN_sum] at this
                omega
              have mg : f_Mo_fold_65 20 A' N v t 1 0 0 = _ := m_foldGo hq (by omega) gv 20 0 (by omega) (by omega)
              rw [if_pos g0, if_pos rfl, mg, m_allO hq, obind]
              dsimp only
              rw [(low_both (C := A') (a := fdS v (fun u => xwN (oC A' 1) N ((u : Nat) : Int)) 10) (b := tot (oC A' 1)) gt fr (by omega)).2, obind]
              refine ⟨_, rfl, fun C9 G9 k9 cr l Q hc hgl hp _ hQ => ?_⟩
              have m0 := many0 hc hq hp
              obtain ⟨C', s1, s2, s3⟩ := c_spread (C0 := C9) (cr := cr) (row := (C9 8 x 11).toNat) (nm := N) hc.g2 (by omega)
              have hc' : CWs C' cr l := hc.cg (fun j => s2 0 _ j (by omega)) (fun j => s2 31 _ j (by omega)) (fun j => s2 32 _ j (by omega))
              rw [if_pos (Int.natCast_nonneg cr), Int.toNat_natCast, m0, if_pos (show g32 (A' 1 1 2) by unfold g32; omega), if_neg z]
              refine ⟨_, s1, ?_⟩
              have ef : (fun u : Nat => xwN l N ((u : Nat) : Int)) = (fun u : Nat => xwN (oC A' 1) N ((u : Nat) : Int)) := funext (fun u => (xwN_perm hp N _).symm)
              have lb := (low_both (C := C') (A := A') (a := fdS v (fun u => xwN (oC A' 1) N ((u : Nat) : Int)) 10) (b := tot (oC A' 1)) gt fr (by omega)).1
              have cg : w_CS_fold_76 20 k9 G9 C' x v t cr 0 0 Q := c_foldGo (C' := C') (N := N) (l := l) hc' (fun u hu => by rw [s2 8 x 11 (by omega)]; exact s3 l hc u hu) gv (fun z hz => by
                rw [ef, ← tot_perm hp, lb] at hz
                rw [← (Prod.mk.inj (Option.some.inj hz)).1]
                exact hQ C' (fun f a j y => s2 f a j (by omega))) ⟨_, by rw [ef, ← tot_perm hp]; exact lb⟩ 20 0 (by omega) (by omega)
              exact cg
        · rw [if_neg q4]
          refine FB.stop h hx rfl (fun Q hQ => ⟨_, c_isProg h.1.1 gp, ?_⟩)
          rw [if_pos q1]
          dsimp only
          rw [if_pos g1, if_neg n1]
          refine ⟨_, c_isName gn, ?_⟩
          rw [if_pos q2']
          dsimp only
          rw [if_pos g1, if_neg n1, if_pos gv, if_neg (show ¬ v < 0 by omega), if_neg (show ¬ 5 < v by omega)]
          refine ⟨_, c_isPart gt, ?_⟩
          rw [if_neg q4]
          dsimp only
          rw [if_pos g0, if_pos rfl]
          exact hQ
      · rw [if_neg q3]
        refine FB.stop h hx rfl (fun Q hQ => ⟨_, c_isProg h.1.1 gp, ?_⟩)
        rw [if_pos q1]
        dsimp only
        rw [if_pos g1, if_neg n1]
        refine ⟨_, c_isName gn, ?_⟩
        rw [if_pos q2']
        dsimp only
        rw [if_pos g1, if_neg n1, if_pos gv]
        by_cases c : v < 0
        · rw [if_pos c]; exact hQ
        · rw [if_neg c, if_pos (show 5 < v by omega)]; exact hQ
    · have q2' : ¬ (0 ≤ n ∧ n < 6) := by omega
      rw [if_neg q2]
      refine FB.stop h hx rfl (fun Q hQ => ⟨_, c_isProg h.1.1 gp, ?_⟩)
      rw [if_pos q1]
      dsimp only
      rw [if_pos g1, if_neg n1]
      refine ⟨_, c_isName gn, ?_⟩
      rw [if_neg q2']
      dsimp only
      rw [if_pos g0, if_pos rfl]
      exact hQ
  · rw [if_neg q1]
    refine FB.stop h hx rfl (fun Q hQ => ⟨_, c_isProg h.1.1 gp, ?_⟩)
    rw [if_neg q1]
    dsimp only
    rw [if_pos g0, if_pos rfl]
    exact hQ
end FLK
