/-! THE T LAYER: stores into arrays, constants, branches (own work) -/
section TH
variable {g : jG} {P : tG → jW → Prop} {cc : ByteArray} {nL pc : Nat} {own : String} {D : va_G} {G : tG} {w : jW} {ρ : Nat → Value} {s : tS} {o : Nat × tS} {lk : tLK} {k0 n0 : Nat} {rm : Room}
/-- behind a write of an array of numbers all facts stay -/
theorem tarr_facts {a : Nat} {c0 c1 : ClassId × vp_A} (h0 : w.1 a = some (.inl c0)) (hn : ∀ t n f, (Sum.inl c0 : jEl) ≠ aR D t n f) (h : tSat D G w ρ s) : tSat D G (va_up w.1 a (some (.inl c1)), w.2) ρ s := by
  refine ⟨h.1, h.2.1, h.2.2.1, h.2.2.2.1, fun p hp => ?_⟩
  have p3 := h.2.2.2.2 p hp
  obtain ⟨kp, pa, pb, pc9, pd⟩ := p
  match kp, p3 with
  | 0, p3 =>
    obtain ⟨a2, ci2, V2, g1, g2, g3⟩ := p3
    have e : a2 ≠ a := fun e => by subst e; rw [h0] at g2; cases g2
    exact ⟨a2, ci2, V2, g1, (va_up_ne _ _ e).trans g2, g3⟩
  | 1, p3 =>
    obtain ⟨a2, t2, n2, f2, i2, g1, g2, g3, g4⟩ := p3
    have e : a2 ≠ a := fun e => by subst e; rw [h0] at g3; exact hn _ _ _ (Option.some.inj g3)
    exact ⟨a2, t2, n2, f2, i2, g1, g2, (va_up_ne _ _ e).trans g3, g4⟩
  | 2, p3 => exact p3
  | kp + 3, p3 => exact p3
def stt (kd : Nat) (t e : vT) : Bool := match kd with
  | 1 => tlng t
  | _ => tint t && vsub t e
def tastore (K : List (Nat × Nat)) (kd pc : Nat) (s : tS) : Option (Nat × tS) := match s.2.1 with
  | v :: i :: r :: st => (match tarr s r with
    | some x => (match s.2.2.1[i]?, s.2.2.1[v]? with
      | some u, some t => (match (x.2.1 == kd && tidx u x.2.2.1) && (stt kd t x.2.2.2 && !(kel K (1000 + x.1) 0)) with
        | true => some (pc + 1, (s.1, st, s.2.2.1, s.2.2.2))
        | false => none)
      | _, _ => none)
    | none => none)
  | _ => none
theorem tastore_ok {K : List (Nat × Nat)} {kd : Nat} (ho : tastore K kd pc s = some o) (h : tSat D G w ρ s) : ∃ v i r st τ n e a iv t, s.2.1 = v :: i :: r :: st ∧ tyO τ = none ∧ tyA τ = some (kd, n, e) ∧ ρ r = .ref a ∧ G a = some τ ∧ ρ i = .int iv ∧ vp_in iv n ∧ iv.toNatClampNeg < n ∧ vok G t (ρ v) ∧ stt kd t e = true ∧ kel K (1000 + τ) 0 = false ∧ o = (pc + 1, (s.1, st, s.2.2.1, s.2.2.2)) := by
  unfold tastore at ho
  split at ho
  · rename_i v i r st hs
    split at ho
    · rename_i x hx
      obtain ⟨τ, k, n, e⟩ := x
      split at ho
      · rename_i u t hu ht
        split at ho
        · rename_i hb
          rw [Bool.and_eq_true, Bool.and_eq_true, Bool.and_eq_true] at hb
          have hk : k = kd := by simpa using hb.1.1
          subst hk
          cases ho
          obtain ⟨h1, h2, a, h3, h4⟩ := tarr_ok h hx
          obtain ⟨iv, h5, h6, h7⟩ := tidx_ok hb.1.2 (tgetI h hu)
          have hb2 : (!(kel K (1000 + τ) 0)) = true := hb.2.2
          rw [Bool.not_eq_true'] at hb2
          exact ⟨v, i, r, st, τ, n, e, a, iv, t, hs, h1, h2, h3, h4, h5, h6, h7, tgetI h ht, hb.2.1, hb2, rfl⟩
        · cases ho
      · cases ho
    · cases ho
  · cases ho
theorem tstk3 {x y z : Nat} {r : List Nat} (hs : s.2.1 = x :: y :: z :: r) : cS ρ s = ρ x :: ρ y :: ρ z :: r.map ρ := by show s.2.1.map ρ = _; rw [hs]; rfl
theorem tiast_ok {K : List (Nat × Nat)} (C : jX g cc nL own D) (hd : decode cc pc = .ok (.iastore, 1)) (hw : WOK D G w) (hPa : ∀ {a τ kd n : Nat} {e : vT} {c0 c1 : jEl}, G a = some τ → tyO τ = none → tyA τ = some (kd, n, e) → kd < 3 → w.1 a = some c0 → tcell D G τ (some c1) → (pu (some τ) (some c1) = pu (some τ) (some c0) ∧ qu (some τ) (some c1) = qu (some τ) (some c0)) → kel K (1000 + τ) 0 = false → P G (va_up w.1 a (some c1), w.2)) (h : tSat D G w ρ s) (ho : tastore K 0 pc s = some o) (hk : tOut g P D s.2.2.1.length ρ o) : JJ g w pc (cL ρ s) (cS ρ s) := by
  obtain ⟨v, i, r, st, τ, n, e, a, iv, t, hs, h1, h2, h3, h4, h5, h6, h7, h8, h9, hkel, rfl⟩ := tastore_ok ho h
  have h9 : (tint t && vsub t e) = true := h9
  rw [Bool.and_eq_true] at h9
  obtain ⟨x, hx, -⟩ := vok_int h9.1 h8
  obtain ⟨f, k1, k2⟩ := (tcell_I h1 h2).mp (hw a τ h4)
  have hv := vsub_ok h9.2 h8
  rw [tstk3 hs, h5, h3, hx]
  refine j_iast C hd k1 h6 ?_
  have hc : tcell D G τ (some (aI D n (upd f iv.toNatClampNeg x))) := (tcell_I h1 h2).mpr ⟨_, rfl, fun j hj => by
    by_cases ej : j = iv.toNatClampNeg
    · subst ej
      show vok G e (.int (upd f _ x _))
      simp only [upd, if_true]
      rw [hx] at hv; exact hv
    · show vok G e (.int (upd f _ x _))
      simp only [upd, if_neg ej]
      exact k2 j hj⟩
  have hP2 := hPa h4 h1 h2 (by decide) k1 hc (pu_num ⟨rfl, rfl, rfl, rfl⟩) hkel
  have h10 := tarr_facts (D := D) (G := G) (ρ := ρ) (s := (s.1, st, s.2.2.1, s.2.2.2)) (c1 := (D.1 100, n, .inl (upd f iv.toNatClampNeg x))) k1 (fun t n f q => by have e2 := (Prod.mk.inj (Prod.mk.inj (Sum.inl.inj q)).2).2; cases e2) (h.re s.1 st h.1 (fun j hj => h.2.1 j (by rw [hs]; exact List.mem_cons_of_mem _ (List.mem_cons_of_mem _ (List.mem_cons_of_mem _ hj)))))
  exact hk G _ ρ hP2 (fun _ _ => rfl) h10
theorem tlast_ok {K : List (Nat × Nat)} (C : jX g cc nL own D) (hd : decode cc pc = .ok (.lastore, 1)) (hw : WOK D G w) (hPa : ∀ {a τ kd n : Nat} {e : vT} {c0 c1 : jEl}, G a = some τ → tyO τ = none → tyA τ = some (kd, n, e) → kd < 3 → w.1 a = some c0 → tcell D G τ (some c1) → (pu (some τ) (some c1) = pu (some τ) (some c0) ∧ qu (some τ) (some c1) = qu (some τ) (some c0)) → kel K (1000 + τ) 0 = false → P G (va_up w.1 a (some c1), w.2)) (h : tSat D G w ρ s) (ho : tastore K 1 pc s = some o) (hk : tOut g P D s.2.2.1.length ρ o) : JJ g w pc (cL ρ s) (cS ρ s) := by
  obtain ⟨v, i, r, st, τ, n, e, a, iv, t, hs, h1, h2, h3, h4, h5, h6, h7, h8, h9, hkel, rfl⟩ := tastore_ok ho h
  obtain ⟨x, hx⟩ := vok_lng h9 h8
  obtain ⟨f, k1⟩ := (tcell_J h1 h2).mp (hw a τ h4)
  rw [tstk3 hs, h5, h3, hx]
  refine j_last C hd k1 h6 ?_
  have hc : tcell D G τ (some (aJ D n (vp_updL f iv.toNatClampNeg x))) := (tcell_J h1 h2).mpr ⟨_, rfl⟩
  have hP2 := hPa h4 h1 h2 (by decide) k1 hc (pu_num ⟨rfl, rfl, rfl, rfl⟩) hkel
  have h10 := tarr_facts (D := D) (G := G) (ρ := ρ) (s := (s.1, st, s.2.2.1, s.2.2.2)) (c1 := (D.1 101, n, .inr (.inl (vp_updL f iv.toNatClampNeg x)))) k1 (fun t n f q => by have e2 := (Prod.mk.inj (Prod.mk.inj (Sum.inl.inj q)).2).2; cases e2) (h.re s.1 st h.1 (fun j hj => h.2.1 j (by rw [hs]; exact List.mem_cons_of_mem _ (List.mem_cons_of_mem _ (List.mem_cons_of_mem _ hj)))))
  exact hk G _ ρ hP2 (fun _ _ => rfl) h10
def talen (pc : Nat) (s : tS) : Option (Nat × tS) := match s.2.1 with
  | r :: st => (match tarr s r with
    | some x => (match Nat.blt x.2.2.1 2147483648 with
      | true => (match jAT[x.2.1]? with
        | some _ => some (pc + 1, tpush s st (0, x.2.2.1, x.2.2.1))
        | none => none)
      | false => none)
    | none => none)
  | _ => none
theorem talen_ok (C : jX g cc nL own D) (hd : decode cc pc = .ok (.arraylength, 1)) (hP : P G w) (hw : WOK D G w) (h : tSat D G w ρ s) (ho : talen pc s = some o) (hk : tOut g P D s.2.2.1.length ρ o) : JJ g w pc (cL ρ s) (cS ρ s) := by
  unfold talen at ho
  split at ho
  · rename_i r st hs
    split at ho
    · rename_i x hx
      obtain ⟨τ, k, n, e⟩ := x
      split at ho
      · rename_i hb
        have hlt : n < 2147483648 := by simpa [Nat.blt_eq] using hb
        split at ho
        · rename_i ty hty
          cases ho
          obtain ⟨h1, h2, a, h3, h4⟩ := tarr_ok h hx
          have hi2 : ∀ j ∈ st, j < s.2.2.1.length := fun j hj => h.2.1 j (by rw [hs]; exact List.mem_cons_of_mem _ hj)
          have hv : vok G (0, (n : Int), (n : Int)) (.int (Int32.ofNat n)) := ⟨_, rfl, by show (n : Int) ≤ (nI n).toInt; rw [nI_toInt hlt]; exact Int.le_refl _, by show (nI n).toInt ≤ (n : Int); rw [nI_toInt hlt]; exact Int.le_refl _⟩
          have kk := tpush_out hP h hi2 hv hk
          rw [tstk hs, h3]
          have hcell := hw a τ h4
          match k, hty, h2 with
          | 0, hty, h2 => obtain ⟨f, k1, -⟩ := (tcell_I h1 h2).mp hcell; exact j_alen (t := 0) C hd hty k1 rfl kk
          | 1, hty, h2 => obtain ⟨f, k1⟩ := (tcell_J h1 h2).mp hcell; exact j_alen (t := 1) C hd hty k1 rfl kk
          | 2, hty, h2 => obtain ⟨f, k1, -⟩ := (tcell_Z h1 h2).mp hcell; exact j_alen (t := 2) C hd hty k1 rfl kk
          | k + 3, hty, h2 => obtain ⟨f, k1, -⟩ := (tcell_R h1 h2).mp hcell; exact j_alen (t := k + 3) C hd hty k1 rfl kk
        · cases ho
      · cases ho
    · cases ho
  · cases ho
/-- constants of the pool -/
def tldc (lk : tLK) (len idx pc : Nat) (s : tS) : Option (Nat × tS) := match lk.2.2.1.find? (fun q => q.1 == idx) with
  | some q => some (pc + len, tpush s s.2.1 (0, q.2.toInt, q.2.toInt))
  | none => none
theorem tldc_ok (C : jX g cc nL own D) (hlk : lkOK own lk) {idx : Nat} (hd : decode cc pc = .ok (.ldc idx, 2)) (hP : P G w) (h : tSat D G w ρ s) (ho : tldc lk 2 idx pc s = some o) (hk : tOut g P D s.2.2.1.length ρ o) : JJ g w pc (cL ρ s) (cS ρ s) := by
  unfold tldc at ho
  split at ho
  · rename_i q hq
    obtain ⟨hq1, hq2⟩ := tfnd hq
    have hq3 : q.1 = idx := by simpa using hq2
    cases ho
    exact j_ldc C (hq3 ▸ hd) (hlk.2.2.1 q hq1) (tpush_out (t := (0, q.2.toInt, q.2.toInt)) hP h h.2.1 ⟨_, rfl, Int.le_refl _, Int.le_refl _⟩ hk)
  · cases ho
theorem tldcw_ok (C : jX g cc nL own D) (hlk : lkOK own lk) {idx : Nat} (hd : decode cc pc = .ok (.ldc_w idx, 3)) (hP : P G w) (h : tSat D G w ρ s) (ho : tldc lk 3 idx pc s = some o) (hk : tOut g P D s.2.2.1.length ρ o) : JJ g w pc (cL ρ s) (cS ρ s) := by
  unfold tldc at ho
  split at ho
  · rename_i q hq
    obtain ⟨hq1, hq2⟩ := tfnd hq
    have hq3 : q.1 = idx := by simpa using hq2
    cases ho
    exact j_ldcw C (hq3 ▸ hd) (hlk.2.2.1 q hq1) (tpush_out (t := (0, q.2.toInt, q.2.toInt)) hP h h.2.1 ⟨_, rfl, Int.le_refl _, Int.le_refl _⟩ hk)
  · cases ho
def tldc2 (lk : tLK) (idx pc : Nat) (s : tS) : Option (Nat × tS) := match lk.2.2.2.1.find? (fun q => q.1 == idx) with
  | some q => (match q.2 == 0 with
    | true => none
    | false => some (pc + 3, tpush s s.2.1 (3, 0, 0)))
  | none => none
theorem tldc2_ok (C : jX g cc nL own D) (hlk : lkOK own lk) {idx : Nat} (hd : decode cc pc = .ok (.ldc2_w idx, 3)) (hP : P G w) (h : tSat D G w ρ s) (ho : tldc2 lk idx pc s = some o) (hk : tOut g P D s.2.2.1.length ρ o) : JJ g w pc (cL ρ s) (cS ρ s) := by
  unfold tldc2 at ho
  split at ho
  · rename_i q hq
    obtain ⟨hq1, hq2⟩ := tfnd hq
    have hq3 : q.1 = idx := by simpa using hq2
    split at ho
    · cases ho
    · rename_i hz
      cases ho
      exact j_ldc2 C (hq3 ▸ hd) (hlk.2.2.2.1 q hq1) (tpush_out (t := (3, 0, 0)) hP h h.2.1 ⟨_, rfl, fun e => by rw [e] at hz; exact absurd hz (by decide)⟩ hk)
  · cases ho
/-- division -/
def tnz (t : vT) : Bool := match t.1 with
  | 0 => ile 1 t.2.1 || ile t.2.2 (-1)
  | 1 => true
  | _ => false
theorem tnz_ok {t : vT} {v : Value} (h : tnz t = true) (hv : vok G t v) : ∃ x : Int32, v = .int x ∧ ¬ x = 0 := by
  obtain ⟨k, a, b⟩ := t
  match k, h, hv with
  | 0, h, hv =>
    obtain ⟨x, hx, h1, h2⟩ := hv
    have h : (ile 1 a || ile b (-1)) = true := h
    rw [Bool.or_eq_true] at h
    refine ⟨x, hx, i32_n ?_⟩
    dsimp only at h1 h2
    rcases h with q | q
    · have := ile_ok q; omega
    · have := ile_ok q; omega
  | 1, _, hv => obtain ⟨x, hx, -, -, h3⟩ := hv; exact ⟨x, hx, h3⟩
def tdiv (pc : Nat) (s : tS) : Option (Nat × tS) := match s.2.1 with
  | y :: x :: r => (match s.2.2.1[x]?, s.2.2.1[y]? with
    | some t, some u => (match tint t && tnz u with
      | true => some (pc + 1, tpush s r ttop)
      | false => none)
    | _, _ => none)
  | _ => none
theorem tdiv_ok (ho : tdiv pc s = some o) (h : tSat D G w ρ s) : ∃ y x r xv yv, s.2.1 = y :: x :: r ∧ ρ x = .int xv ∧ ρ y = .int yv ∧ ¬ yv = 0 ∧ o = (pc + 1, tpush s r ttop) := by
  unfold tdiv at ho
  split at ho
  · rename_i y x r hs
    split at ho
    · rename_i t u ht hu
      split at ho
      · rename_i hp
        rw [Bool.and_eq_true] at hp
        obtain ⟨xv, hx, -⟩ := vok_int hp.1 (tgetI h ht)
        obtain ⟨yv, hy, hy2⟩ := tnz_ok hp.2 (tgetI h hu)
        cases ho
        exact ⟨y, x, r, xv, yv, hs, hx, hy, hy2, rfl⟩
      · cases ho
    · cases ho
  · cases ho
theorem tidiv_ok (C : jX g cc nL own D) (hd : decode cc pc = .ok (.idiv, 1)) (hP : P G w) (h : tSat D G w ρ s) (ho : tdiv pc s = some o) (hk : tOut g P D s.2.2.1.length ρ o) : JJ g w pc (cL ρ s) (cS ρ s) := by
  obtain ⟨y, x, r, xv, yv, hs, hx, hy, hy2, rfl⟩ := tdiv_ok ho h
  rw [tstk2 hs, hx, hy]
  exact j_idiv C hd hy2 (tpush_out hP h (fun j hj => h.2.1 j (by rw [hs]; exact List.mem_cons_of_mem _ (List.mem_cons_of_mem _ hj))) (top_ok G _) hk)
theorem tirem_ok (C : jX g cc nL own D) (hd : decode cc pc = .ok (.irem, 1)) (hP : P G w) (h : tSat D G w ρ s) (ho : tdiv pc s = some o) (hk : tOut g P D s.2.2.1.length ρ o) : JJ g w pc (cL ρ s) (cS ρ s) := by
  obtain ⟨y, x, r, xv, yv, hs, hx, hy, hy2, rfl⟩ := tdiv_ok ho h
  rw [tstk2 hs, hx, hy]
  exact j_irem C hd hy2 (tpush_out hP h (fun j hj => h.2.1 j (by rw [hs]; exact List.mem_cons_of_mem _ (List.mem_cons_of_mem _ hj))) (top_ok G _) hk)
def tdivL (pc : Nat) (s : tS) : Option (Nat × tS) := match s.2.1 with
  | y :: x :: r => (match s.2.2.1[x]?, s.2.2.1[y]? with
    | some t, some u => (match tlng t && u.1 == 3 with
      | true => some (pc + 1, tpush s r (2, 0, 0))
      | false => none)
    | _, _ => none)
  | _ => none
theorem tdivL_ok (ho : tdivL pc s = some o) (h : tSat D G w ρ s) : ∃ y x r xv yv, s.2.1 = y :: x :: r ∧ ρ x = .long xv ∧ ρ y = .long yv ∧ ¬ yv = 0 ∧ o = (pc + 1, tpush s r (2, 0, 0)) := by
  unfold tdivL at ho
  split at ho
  · rename_i y x r hs
    split at ho
    · rename_i t u ht hu
      split at ho
      · rename_i hp
        rw [Bool.and_eq_true] at hp
        obtain ⟨xv, hx⟩ := vok_lng hp.1 (tgetI h ht)
        have hv := tgetI h hu
        obtain ⟨ku, ua, ub⟩ := u
        have e : ku = 3 := by simpa using hp.2
        subst e
        obtain ⟨yv, hy, hy2⟩ := hv
        cases ho
        exact ⟨y, x, r, xv, yv, hs, hx, hy, hy2, rfl⟩
      · cases ho
    · cases ho
  · cases ho
theorem tldiv_ok (C : jX g cc nL own D) (hd : decode cc pc = .ok (.ldiv, 1)) (hP : P G w) (h : tSat D G w ρ s) (ho : tdivL pc s = some o) (hk : tOut g P D s.2.2.1.length ρ o) : JJ g w pc (cL ρ s) (cS ρ s) := by
  obtain ⟨y, x, r, xv, yv, hs, hx, hy, hy2, rfl⟩ := tdivL_ok ho h
  rw [tstk2 hs, hx, hy]
  exact j_ldiv C hd hy2 (tpush_out (t := (2, 0, 0)) hP h (fun j hj => h.2.1 j (by rw [hs]; exact List.mem_cons_of_mem _ (List.mem_cons_of_mem _ hj))) ⟨_, rfl⟩ hk)
theorem tlrem_ok (C : jX g cc nL own D) (hd : decode cc pc = .ok (.lrem, 1)) (hP : P G w) (h : tSat D G w ρ s) (ho : tdivL pc s = some o) (hk : tOut g P D s.2.2.1.length ρ o) : JJ g w pc (cL ρ s) (cS ρ s) := by
  obtain ⟨y, x, r, xv, yv, hs, hx, hy, hy2, rfl⟩ := tdivL_ok ho h
  rw [tstk2 hs, hx, hy]
  exact j_lrem C hd hy2 (tpush_out (t := (2, 0, 0)) hP h (fun j hj => h.2.1 j (by rw [hs]; exact List.mem_cons_of_mem _ (List.mem_cons_of_mem _ hj))) ⟨_, rfl⟩ hk)
def tlcmp (pc : Nat) (s : tS) : Option (Nat × tS) := match s.2.1 with
  | y :: x :: r => (match s.2.2.1[x]?, s.2.2.1[y]? with
    | some t, some u => (match tlng t && tlng u with
      | true => some (pc + 1, (s.1, s.2.2.1.length :: r, s.2.2.1 ++ [(0, -1, 1)], (2, s.2.2.1.length, x, y, 0) :: s.2.2.2))
      | false => none)
    | _, _ => none)
  | _ => none
theorem lg_cmp_rng (x y : Int64) : -1 ≤ (lg_cmp x y).toInt ∧ (lg_cmp x y).toInt ≤ 1 := by
  unfold lg_cmp
  split
  · decide
  · split <;> decide
theorem tlcmp_ok (C : jX g cc nL own D) (hd : decode cc pc = .ok (.lcmp, 1)) (hP : P G w) (h : tSat D G w ρ s) (ho : tlcmp pc s = some o) (hk : tOut g P D s.2.2.1.length ρ o) : JJ g w pc (cL ρ s) (cS ρ s) := by
  unfold tlcmp at ho
  split at ho
  · rename_i y x r hs
    split at ho
    · rename_i t u ht hu
      split at ho
      · rename_i hp
        rw [Bool.and_eq_true] at hp
        obtain ⟨xv, hx⟩ := vok_lng hp.1 (tgetI h ht)
        obtain ⟨yv, hy⟩ := vok_lng hp.2 (tgetI h hu)
        cases ho
        have hi : ∀ j ∈ y :: x :: r, j < s.2.2.1.length := fun j hj => h.2.1 j (by rw [hs]; exact hj)
        have hv : vok G (0, -1, 1) (.int (lg_cmp xv yv)) := ⟨_, rfl, (lg_cmp_rng xv yv).1, (lg_cmp_rng xv yv).2⟩
        obtain ⟨q1, q2, q3⟩ := tpush_ok h (r := r) (fun j hj => hi j (List.mem_cons_of_mem _ (List.mem_cons_of_mem _ hj))) hv
        have hlx := hi x (List.mem_cons_of_mem _ List.mem_cons_self)
        have hly := hi y List.mem_cons_self
        have h8 := q1.fact (q := (2, s.2.2.1.length, x, y, 0)) (fun j hj => by
          have : j = s.2.2.1.length ∨ j = x ∨ j = y := by simpa [fids] using hj
          show j < (s.2.2.1 ++ [_]).length
          simp; omega) ⟨xv, yv, by show rset ρ _ _ x = _; rw [rset_ne hlx]; exact hx, by show rset ρ _ _ y = _; rw [rset_ne hly]; exact hy, rset_at _ _ _⟩
        have kk := hk G w _ hP (fun j hj => rset_ne hj) h8
        rw [tstk2 hs, hx, hy]
        refine j_lcmp C hd ?_
        rw [← q2, ← q3]
        exact kk
      · cases ho
    · cases ho
  · cases ho
end TH
