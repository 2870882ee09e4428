/-! the class: a crowd spread by a name; what is kept of a run; a run as a whole (own work) -/
theorem iAnd_15 (x : Int) : 0 ≤ iAnd x 15 ∧ iAnd x 15 < 16 := by
  have q : ((Int32.ofInt x &&& Int32.ofInt 15)).toBitVec.toNat ≤ 15 := by
    show ((Int32.ofInt x).toBitVec &&& (Int32.ofInt 15).toBitVec).toNat ≤ 15
    rw [BitVec.toNat_and]
    exact Nat.and_le_right
  unfold iAnd
  rw [i32_small rfl (by omega)]
  omega
/-- the weight of those whose name has the value -/
def xwN (l : List xE) (nm : Nat) (v : Int) : Int := tot (l.filter (fun q => dd q.1 nm == v))
theorem xwN_app {l : List xE} {q : xE} {nm : Nat} {v : Int} : xwN (l ++ [q]) nm v = xwN l nm v + (if dd q.1 nm = v then q.2 else 0) := by
  unfold xwN
  rw [List.filter_append, tot_app]
  congr 1
  by_cases k : dd q.1 nm = v
  · rw [if_pos k, List.filter_cons_of_pos (by simp [k])]
    simp [tot]
  · rw [if_neg k, List.filter_cons_of_neg (by simp [k])]
    rfl
section CSP
variable {C0 : mA} {cr row : Nat} {nm : Nat}
theorem c_spr2 (hg : g32 (C0 0 cr 2)) (hn : nm < 6) : ∀ (F j : Nat) (C : mA), j ≤ 300 → 300 - j < F → (∀ f a i, ¬ (f = 23 ∧ a = row) → C f a i = C0 f a i) → (∀ l, CWs C0 cr l → ∀ v : Nat, v < 10 → C 23 row v = xwN (l.take j) nm v) → ∃ C', f_Crowd_spread_20 F C cr nm row j = some (0, C') ∧ (∀ f a i, ¬ (f = 23 ∧ a = row) → C' f a i = C0 f a i) ∧ ∀ l, CWs C0 cr l → ∀ v : Nat, v < 10 → C' 23 row v = xwN l nm v := by
  intro F
  induction F with
  | zero => intro j C _ h; omega
  | succ F ih =>
    intro j C h1 h2 hf hv
    have fin : C0 0 cr 2 ≤ j ∨ 300 ≤ j → ∀ l, CWs C0 cr l → ∀ v : Nat, v < 10 → C 23 row v = xwN l nm v := fun hz l hl v hv' => by
      rw [hv l hl v hv']
      have e := hl.2.2.1
      have := hl.len
      rw [List.take_of_length_le (by omega)]
    unfold f_Crowd_spread_20
    rw [hf 0 cr 2 (by omega), if_pos (show g32 (j : Int) by unfold g32; omega), if_pos hg]
    by_cases z : C0 0 cr 2 ≤ j
    · rw [if_pos z]
      exact ⟨C, rfl, hf, fin (Or.inl z)⟩
    rw [if_neg z]
    by_cases z3 : (300 : Int) ≤ j
    · rw [if_pos z3]
      exact ⟨C, rfl, hf, fin (Or.inr (by omega))⟩
    have hj : j < 300 := by omega
    have e3 : ((j : Int) + 1) = ((j + 1 : Nat) : Int) := by omega
    rw [if_neg z3, if_pos (show 0 ≤ (j : Int) ∧ (j : Int) < ((300 : Nat) : Int) by omega)]
    have r := iAnd_15 (iUsh (C0 31 (C0 0 cr 0).toNat j) ((5 - (nm : Int)) * 4))
    obtain ⟨g, hg'⟩ : ∃ g, g = iAnd (iUsh (C0 31 (C0 0 cr 0).toNat j) ((5 - (nm : Int)) * 4)) 15 := ⟨_, rfl⟩
    have eg : f_CS_digitAt C (C 31 (C 0 cr 0).toNat ((j : Int)).toNat) (nm : Int) = some (g, C) := by
      rw [Int.toNat_natCast, hf 0 cr 0 (by omega), hf 31 _ j (by omega), hg']
      rfl
    rw [eg, obind]
    rw [← hg'] at r
    show ∃ C', (if g32 g then if g32 ((10 : Nat) : Int) then (if ((10 : Nat) : Int) ≤ g then (f_Crowd_spread_20 F C cr nm row ((j : Int) + 1)) else (if (0 ≤ g ∧ g < ((10 : Nat) : Int)) then (f_Crowd_spread_20 F (mu C 23 row g.toNat ((C 23 row g.toNat) + (C 32 ((C 0 cr 1).toNat) ((j : Int)).toNat))) cr nm row ((j : Int) + 1)) else none)) else none else none) = _ ∧ _
    rw [if_pos (show g32 g by unfold g32; omega), if_pos (show g32 ((10 : Nat) : Int) by decide), e3]
    -- where the crowd is known
    have known : ∀ l, CWs C0 cr l → ∃ hj : j < l.length, dd (l[j]).1 nm = g ∧ (l[j]).2 = C0 32 (C0 0 cr 1).toNat j ∧ 0 ≤ g ∧ g ≤ 9 := fun l hl => by
      have e := hl.2.2.1
      have hjl : j < l.length := by omega
      obtain ⟨a1, a2⟩ := CW.at hl hjl
      refine ⟨hjl, ?_⟩
      have k := c_digit (A := C0) (n := (nm : Int)) a2.1 (by omega)
      have k2 : some (iAnd (iUsh (C0 31 (C0 0 cr 0).toNat j) ((5 - (nm : Int)) * 4)) 15, C0) = some (nb9 (C0 31 (C0 0 cr 0).toNat j) nm, C0) := k
      have k3 : g = nb9 (C0 31 (C0 0 cr 0).toNat j) nm := by rw [hg']; exact (Prod.mk.inj (Option.some.inj k2)).1
      rw [a1, k3]
      exact ⟨(a2.tn.2 nm hn).1, rfl, (a2.2 nm hn).2⟩
    by_cases z10 : ((10 : Nat) : Int) ≤ g
    · rw [if_pos z10]
      refine ih (j + 1) C hj (by omega) hf (fun l hl => ?_)
      obtain ⟨-, -, -, -, x⟩ := known l hl
      omega
    · rw [if_neg z10, if_pos (show 0 ≤ g ∧ g < ((10 : Nat) : Int) by omega)]
      refine ih (j + 1) _ hj (by omega) (fun f a i q => by rw [mu_ne _ _ (by omega)]; exact hf f a i q) (fun l hl v hv' => ?_)
      obtain ⟨hjl, x1, x2, x3, x4⟩ := known l hl
      rw [take_s hjl, xwN_app, x1, Int.toNat_natCast, hf 0 cr 1 (by omega), hf 32 _ j (by omega), ← x2]
      have hvv := hv l hl v hv'
      by_cases q : (v : Int) = g
      · have : g.toNat = v := by omega
        rw [this, mu_at, hvv, if_pos q.symm]
      · rw [mu_ne _ _ (by omega), hvv, if_neg (fun e => q e.symm)]
        omega
theorem c_spread (hg : g32 (C0 0 cr 2)) (hn : nm < 6) : ∃ C', f_Crowd_spread C0 cr nm row = some (0, C') ∧ (∀ f a i, ¬ (f = 23 ∧ a = row) → C' f a i = C0 f a i) ∧ ∀ l, CWs C0 cr l → ∀ v : Nat, v < 10 → C' 23 row v = xwN l nm v := by
  have go : ∀ (F j : Nat) (C : mA), j ≤ 10 → 10 - j < F → (∀ f a i, ¬ (f = 23 ∧ a = row) → C f a i = C0 f a i) → (∀ v : Nat, v < j → C 23 row v = 0) → ∃ C', f_Crowd_spread_2 F C cr nm row j = some (0, C') ∧ (∀ f a i, ¬ (f = 23 ∧ a = row) → C' f a i = C0 f a i) ∧ ∀ l, CWs C0 cr l → ∀ v : Nat, v < 10 → C' 23 row v = xwN l nm v := by
    intro F
    induction F with
    | zero => intro j C _ h; omega
    | succ F ih =>
      intro j C h1 h2 hf hv
      unfold f_Crowd_spread_2
      rw [if_pos (show g32 (j : Int) by unfold g32; omega), if_pos (show g32 ((10 : Nat) : Int) by decide)]
      by_cases z : ((10 : Nat) : Int) ≤ j
      · rw [if_pos z]
        have q0 : ∀ l, CWs C0 cr l → ∀ v : Nat, v < 10 → C 23 row v = xwN (l.take 0) nm v := fun l _ v hv' => by
          rw [hv v (by omega), List.take_zero]
          rfl
        exact c_spr2 hg hn 400 0 C (by omega) (by omega) hf q0
      · rw [if_neg z, if_pos (show 0 ≤ (j : Int) ∧ (j : Int) < ((10 : Nat) : Int) by omega), show ((j : Int) + 1) = ((j + 1 : Nat) : Int) by omega, Int.toNat_natCast]
        refine ih (j + 1) _ (by omega) (by omega) (fun f a i q => by rw [mu_ne _ _ (by omega)]; exact hf f a i q) (fun v hv' => ?_)
        by_cases q : v = j
        · subst q; exact mu_at _ _ _ _ _
        · rw [mu_ne _ _ (by omega)]
          exact hv v (by omega)
  exact go 400 0 C0 (by omega) (by omega) (fun _ _ _ _ => rfl) (fun v hv => absurd hv (Nat.not_lt_zero v))
/-- what is kept of a run -/
theorem c_keepR {ru d : Nat} {fits : Int} (hd : d < 10) (hf : fits = 0 ∨ fits = 1) (hg : g32 (C0 0 cr 2)) : ∃ C', f_Runs_keep C0 ru d cr fits = some (0, C') ∧ C' 28 (C0 4 ru 0).toNat d = (if fits = 0 then 2 else 1) ∧ (∀ l, CWs C0 cr l → ∀ v : Nat, v < 10 → C' 29 (C0 4 ru 1).toNat (d * 10 + v) = xwN l 0 v) ∧ ∀ f a j, ¬ ((f = 28 ∧ a = (C0 4 ru 0).toNat ∧ j = d) ∨ (f = 29 ∧ a = (C0 4 ru 1).toNat ∧ d * 10 ≤ j ∧ j < d * 10 + 10) ∨ (f = 23 ∧ a = (C0 4 ru 2).toNat)) → C' f a j = C0 f a j := by
  obtain ⟨z, hz⟩ : ∃ z : Int, z = if fits = 0 then 2 else 1 := ⟨_, rfl⟩
  obtain ⟨C1, hC1⟩ : ∃ C1, C1 = mu C0 28 (C0 4 ru 0).toNat d z := ⟨_, rfl⟩
  have f1 : ∀ f a j, ¬ (f = 28 ∧ a = (C0 4 ru 0).toNat ∧ j = d) → C1 f a j = C0 f a j := fun f a j q => by rw [hC1, mu_ne _ _ (by omega)]
  obtain ⟨C2, s1, s2, s3⟩ := c_spread (C0 := C1) (cr := cr) (row := (C0 4 ru 2).toNat) (nm := 0) (by rw [f1 0 cr 2 (by omega)]; exact hg) (by decide)
  have cw1 : ∀ l, CWs C0 cr l → CWs C1 cr l := fun l hl => hl.cg (fun j => f1 0 cr j (by omega)) (fun j => f1 31 _ j (by omega)) (fun j => f1 32 _ j (by omega))
  have f2 : ∀ f a j, ¬ ((f = 28 ∧ a = (C0 4 ru 0).toNat ∧ j = d) ∨ (f = 23 ∧ a = (C0 4 ru 2).toNat)) → C2 f a j = C0 f a j := fun f a j q => by rw [s2 f a j (by omega), f1 f a j (by omega)]
  have v2 : ∀ l, CWs C0 cr l → ∀ v : Nat, v < 10 → C2 23 (C0 4 ru 2).toNat v = xwN l 0 v := fun l hl => s3 l (cw1 l hl)
  have e28 : C2 28 (C0 4 ru 0).toNat d = z := by rw [s2 28 _ d (by omega), hC1, mu_at]
  have go : ∀ (F j : Nat) (C : mA), j ≤ 10 → 10 - j < F → (∀ f a i, ¬ (f = 29 ∧ a = (C0 4 ru 1).toNat ∧ d * 10 ≤ i ∧ i < d * 10 + 10) → C f a i = C2 f a i) → (∀ v : Nat, v < j → C 29 (C0 4 ru 1).toNat (d * 10 + v) = C2 23 (C0 4 ru 2).toNat v) → ∃ C', f_Runs_keep_35 F C ru d j = some (0, C') ∧ (∀ f a i, ¬ (f = 29 ∧ a = (C0 4 ru 1).toNat ∧ d * 10 ≤ i ∧ i < d * 10 + 10) → C' f a i = C2 f a i) ∧ ∀ v : Nat, v < 10 → C' 29 (C0 4 ru 1).toNat (d * 10 + v) = C2 23 (C0 4 ru 2).toNat v := by
    intro F
    induction F with
    | zero => intro j C _ h; omega
    | succ F ih =>
      intro j C h1 h2 hfr hv
      unfold f_Runs_keep_35
      rw [if_pos (show g32 (j : Int) by unfold g32; omega)]
      by_cases y : (10 : Int) ≤ j
      · rw [if_pos y]
        exact ⟨C, rfl, hfr, fun v hv' => hv v (by omega)⟩
      · have ej : (d : Int) * 10 + (j : Int) = ((d * 10 + j : Nat) : Int) := by omega
        rw [if_neg y, if_pos (show 0 ≤ (j : Int) ∧ (j : Int) < ((10 : Nat) : Int) by omega), ej, if_pos (show 0 ≤ ((d * 10 + j : Nat) : Int) ∧ ((d * 10 + j : Nat) : Int) < ((100 : Nat) : Int) by omega), Int.toNat_natCast, Int.toNat_natCast, hfr 4 ru 1 (by omega), hfr 4 ru 2 (by omega), f2 4 ru 1 (by omega), f2 4 ru 2 (by omega), show ((j : Int) + 1) = ((j + 1 : Nat) : Int) by omega]
        refine ih (j + 1) _ (by omega) (by omega) (fun f a i q => by rw [mu_ne _ _ (by omega)]; exact hfr f a i q) (fun v hv' => ?_)
        by_cases q : v = j
        · subst q
          rw [mu_at, hfr 23 _ v (by omega)]
        · rw [mu_ne _ _ (by omega)]
          exact hv v (by omega)
  obtain ⟨C', t1, t2, t3⟩ := go 20 0 C2 (by omega) (by omega) (fun _ _ _ _ => rfl) (fun v hv => absurd hv (Nat.not_lt_zero v))
  have t1' : f_Runs_keep_35 20 C2 ru d 0 = some (0, C') := t1
  have s1' : f_Crowd_spread C1 cr 0 (C0 4 ru 2).toNat = some (0, C2) := s1
  refine ⟨C', ?_, ?_, fun l hl v hv => ?_, fun f a j q => ?_⟩
  · unfold f_Runs_keep
    rw [c_isValue (show g32 (d : Int) by unfold g32; omega), obind, if_pos (show 0 ≤ (d : Int) ∧ (d : Int) < 10 by omega)]
    show (if g32 (1 : Int) then (if (1 : Int) = 0 then (some (0, C0)) else (if g32 fits then (if fits = 0 then (if (0 ≤ (d : Int) ∧ (d : Int) < ((10 : Nat) : Int)) then (Option.bind (f_Crowd_spread (mu C0 28 ((C0 4 ru 0).toNat) ((d : Int)).toNat 2) cr 0 ((C0 4 ru 2).toNat)) (fun q16 => (f_Runs_keep_35 20 q16.2 ru d 0))) else none) else (if (0 ≤ (d : Int) ∧ (d : Int) < ((10 : Nat) : Int)) then (Option.bind (f_Crowd_spread (mu C0 28 ((C0 4 ru 0).toNat) ((d : Int)).toNat 1) cr 0 ((C0 4 ru 2).toNat)) (fun q20 => (f_Runs_keep_35 20 q20.2 ru d 0))) else none)) else none)) else none) = _
    rw [if_pos (show g32 (1 : Int) by decide), if_neg (show ¬ (1 : Int) = 0 by decide), if_pos (show g32 fits by unfold g32; omega), Int.toNat_natCast]
    rcases hf with q | q
    · rw [if_pos q, if_pos (show 0 ≤ (d : Int) ∧ (d : Int) < ((10 : Nat) : Int) by omega)]
      rw [if_pos q] at hz
      rw [hz] at hC1
      rw [← hC1, s1', obind]
      exact t1'
    · rw [if_neg (by omega), if_pos (show 0 ≤ (d : Int) ∧ (d : Int) < ((10 : Nat) : Int) by omega)]
      rw [if_neg (by omega)] at hz
      rw [hz] at hC1
      rw [← hC1, s1', obind]
      exact t1'
  · rw [t2 28 _ d (by omega), e28, hz]
  · rw [t3 v hv, v2 l hl v hv]
  · rw [t2 f a j (by omega)]
    exact f2 f a j (by omega)
end CSP
