/-! THE T LAYER: plain instructions, on (own work) -/
theorem tgetI {D : va_G} {G : tG} {w : jW} {ρ : Nat → Value} {s : tS} (h : tSat D G w ρ s) {i : Nat} {t : vT} (ht : s.2.2.1[i]? = some t) : vok G t (ρ i) := h.2.2.2.1 _ _ ht
def tbin (k pc : Nat) (s : tS) : Option (Nat × tS) := match s.2.1 with
  | y :: x :: r => (match s.2.2.1[x]?, s.2.2.1[y]? with
    | some t, some u => (match tint t && tint u with
      | true => (match aDif k t u with
        | some bd => some (pc, (s.1, s.2.2.1.length :: r, s.2.2.1 ++ [aBin k t u], (3, s.2.2.1.length, (match bd.1 with | true => x | false => y), 0, bd.2) :: s.2.2.2))
        | none => some (pc, tpush s r (aBin k t u)))
      | false => none)
    | _, _ => none)
  | _ => none
theorem tbin_ok {D : va_G} {G : tG} {w : jW} {ρ : Nat → Value} {s : tS} {k pc : Nat} {o : Nat × tS} (h : tSat D G w ρ s) (ho : tbin k pc s = some o) : tRes D G w ρ s.2.2.1.length o (sb32 (aFun k) pc (cL ρ s) (cS ρ s)) := by
  unfold tbin at ho
  split at ho
  · rename_i y x r hs
    split at ho
    · rename_i t u ht hu
      split at ho
      · rename_i hp
        rw [Bool.and_eq_true] at hp
        obtain ⟨xv, hx, x1, x2⟩ := vok_int hp.1 (tgetI h ht)
        obtain ⟨yv, hy, y1, y2⟩ := vok_int hp.2 (tgetI h hu)
        have hi : ∀ j ∈ y :: x :: r, j < s.2.2.1.length := fun j hj => h.2.1 j (by rw [hs]; exact hj)
        have hr : ∀ j ∈ r, j < s.2.2.1.length := fun j hj => hi j (List.mem_cons_of_mem _ (List.mem_cons_of_mem _ hj))
        have hR : sb32 (aFun k) pc (cL ρ s) (cS ρ s) = some (pc, cL ρ s, .int (aFun k xv yv) :: r.map ρ) := by
          have e : cS ρ s = ρ y :: ρ x :: r.map ρ := by show s.2.1.map ρ = _; rw [hs]; rfl
          rw [e, hx, hy]; rfl
        have hv : vok G (aBin k t u) (.int (aFun k xv yv)) := aBin_ok x1 x2 y1 y2
        split at ho
        · rename_i bd hd
          cases ho
          obtain ⟨b, d⟩ := bd
          have hlx := hi x (List.mem_cons_of_mem _ List.mem_cons_self)
          have hly := hi y List.mem_cons_self
          have e := aDif_ok x1 x2 y1 y2 hd
          cases b
          · refine tRes.fact (q := (3, s.2.2.1.length, y, 0, d)) h hr hv hR (fun i hi2 => ?_) ?_
            · have : i = s.2.2.1.length ∨ i = y := by simpa [fids] using hi2
              omega
            · refine ⟨aFun k xv yv, yv, rset_at _ _ _, ?_, e⟩
              show rset ρ _ _ y = _
              rw [rset_ne hly, hy]
          · refine tRes.fact (q := (3, s.2.2.1.length, x, 0, d)) h hr hv hR (fun i hi2 => ?_) ?_
            · have : i = s.2.2.1.length ∨ i = x := by simpa [fids] using hi2
              omega
            · refine ⟨aFun k xv yv, xv, rset_at _ _ _, ?_, e⟩
              show rset ρ _ _ x = _
              rw [rset_ne hlx, hx]
        · cases ho
          exact tRes.push h hr hv hR
      · cases ho
    · cases ho
  · cases ho
def tbin64 (pc : Nat) (s : tS) : Option (Nat × tS) := match s.2.1 with
  | y :: x :: r => (match s.2.2.1[x]?, s.2.2.1[y]? with
    | some t, some u => (match tlng t && tlng u with
      | true => some (pc, tpush s r (2, 0, 0))
      | false => none)
    | _, _ => none)
  | _ => none
theorem tbin64_ok {D : va_G} {G : tG} {w : jW} {ρ : Nat → Value} {s : tS} {pc : Nat} {o : Nat × tS} (f : Int64 → Int64 → Int64) (h : tSat D G w ρ s) (ho : tbin64 pc s = some o) : tRes D G w ρ s.2.2.1.length o (sb64 f pc (cL ρ s) (cS ρ s)) := by
  unfold tbin64 at ho
  split at ho
  · rename_i y x r hs
    split at ho
    · rename_i t u ht hu
      split at ho
      · rename_i hp
        rw [Bool.and_eq_true] at hp
        obtain ⟨xv, hx⟩ := vok_lng hp.1 (tgetI h ht)
        obtain ⟨yv, hy⟩ := vok_lng hp.2 (tgetI h hu)
        have hi : ∀ j ∈ y :: x :: r, j < s.2.2.1.length := fun j hj => h.2.1 j (by rw [hs]; exact hj)
        cases ho
        refine tRes.push (v := .long (f xv yv)) h (fun j hj => hi j (List.mem_cons_of_mem _ (List.mem_cons_of_mem _ hj))) ⟨_, rfl⟩ ?_
        have e : cS ρ s = ρ y :: ρ x :: r.map ρ := by show s.2.1.map ρ = _; rw [hs]; rfl
        rw [e, hx, hy]; rfl
      · cases ho
    · cases ho
  · cases ho
/-- one number in, another out -/
def tun (p : vT → Bool) (t9 : vT) (pc : Nat) (s : tS) : Option (Nat × tS) := match s.2.1 with
  | x :: r => (match s.2.2.1[x]? with
    | some t => (match p t with
      | true => some (pc, tpush s r t9)
      | false => none)
    | _ => none)
  | _ => none
theorem tun_ok {D : va_G} {G : tG} {w : jW} {ρ : Nat → Value} {s : tS} {p : vT → Bool} {t9 : vT} {pc : Nat} {o : Nat × tS} {R : Option jR} (h : tSat D G w ρ s) (ho : tun p t9 pc s = some o) (hR : ∀ x t r, s.2.1 = x :: r → p t = true → vok G t (ρ x) → ∃ v, vok G t9 v ∧ R = some (pc, cL ρ s, v :: r.map ρ)) : tRes D G w ρ s.2.2.1.length o R := by
  unfold tun at ho
  split at ho
  · rename_i x r hs
    split at ho
    · rename_i t ht
      split at ho
      · rename_i hp
        cases ho
        obtain ⟨v, hv, h1⟩ := hR x t r hs hp (tgetI h ht)
        exact tRes.push h (fun j hj => h.2.1 j (by rw [hs]; exact List.mem_cons_of_mem _ hj)) hv h1
      · cases ho
    · cases ho
  · cases ho
theorem tstk {ρ : Nat → Value} {s : tS} {x : Nat} {r : List Nat} (hs : s.2.1 = x :: r) : cS ρ s = ρ x :: r.map ρ := by show s.2.1.map ρ = _; rw [hs]; rfl
theorem tstk2 {ρ : Nat → Value} {s : tS} {x y : Nat} {r : List Nat} (hs : s.2.1 = x :: y :: r) : cS ρ s = ρ x :: ρ y :: r.map ρ := by show s.2.1.map ρ = _; rw [hs]; rfl
def tlshr (pc : Nat) (s : tS) : Option (Nat × tS) := match s.2.1 with
  | y :: x :: r => (match s.2.2.1[x]?, s.2.2.1[y]? with
    | some t, some u => (match tlng t && tint u with
      | true => some (pc, tpush s r (2, 0, 0))
      | false => none)
    | _, _ => none)
  | _ => none
theorem tlshr_ok {D : va_G} {G : tG} {w : jW} {ρ : Nat → Value} {s : tS} {nL pc : Nat} {v : Value} {o : Nat × tS} (h : tSat D G w ρ s) (ho : tlshr (pc + 1) s = some o) : tRes D G w ρ s.2.2.1.length o (sx nL pc .lshr v (cL ρ s) (cS ρ s)) := by
  unfold tlshr at ho
  split at ho
  · rename_i y x r hs
    split at ho
    · rename_i t u ht hu
      split at ho
      · rename_i hp
        rw [Bool.and_eq_true] at hp
        obtain ⟨xv, hx⟩ := vok_lng hp.1 (tgetI h ht)
        obtain ⟨yv, hy, -⟩ := vok_int hp.2 (tgetI h hu)
        have hi : ∀ j ∈ y :: x :: r, j < s.2.2.1.length := fun j hj => h.2.1 j (by rw [hs]; exact hj)
        cases ho
        refine tRes.push (v := .long (xv >>> (yv.toInt64 &&& 63))) h (fun j hj => hi j (List.mem_cons_of_mem _ (List.mem_cons_of_mem _ hj))) ⟨_, rfl⟩ ?_
        rw [tstk2 hs, hx, hy]; rfl
      · cases ho
    · cases ho
  · cases ho
/-- dup and pop -/
def t1 (t : vT) : Bool := tint t || trf t
theorem t1_ok {G : tG} {t : vT} {v : Value} (ht : t1 t = true) (h : vok G t v) : (∃ x, v = .int x) ∨ (∃ x, v = .ref x) ∨ v = .null := by
  unfold t1 at ht
  rw [Bool.or_eq_true] at ht
  rcases ht with q | q
  · obtain ⟨x, hx, -⟩ := vok_int q h; exact Or.inl ⟨x, hx⟩
  · rcases vok_rf q h with hx | ⟨x, hx⟩
    · exact Or.inr (Or.inr hx)
    · exact Or.inr (Or.inl ⟨x, hx⟩)
def tdup (pc : Nat) (s : tS) : Option (Nat × tS) := match s.2.1 with
  | x :: r => (match s.2.2.1[x]? with
    | some t => (match t1 t with
      | true => some (pc, (s.1, x :: x :: r, s.2.2.1, s.2.2.2))
      | false => none)
    | none => none)
  | _ => none
theorem tdup_ok {D : va_G} {G : tG} {w : jW} {ρ : Nat → Value} {s : tS} {nL pc : Nat} {v : Value} {o : Nat × tS} (h : tSat D G w ρ s) (ho : tdup (pc + 1) s = some o) : tRes D G w ρ s.2.2.1.length o (sx nL pc .dup v (cL ρ s) (cS ρ s)) := by
  unfold tdup at ho
  split at ho
  · rename_i x r hs
    split at ho
    · rename_i t ht
      split at ho
      · rename_i hp
        cases ho
        have hi : ∀ j ∈ x :: r, j < s.2.2.1.length := fun j hj => h.2.1 j (by rw [hs]; exact hj)
        refine ⟨ρ, fun _ _ => rfl, h.re _ _ h.1 (fun j hj => ?_), ?_⟩
        · rcases List.mem_cons.mp hj with rfl | hj
          · exact hi _ List.mem_cons_self
          · exact hi j hj
        · rw [tstk hs]
          show sx nL pc .dup v (cL ρ s) (ρ x :: r.map ρ) = some (pc + 1, cL ρ s, ρ x :: ρ x :: r.map ρ)
          rcases t1_ok hp (tgetI h ht) with ⟨z, hz⟩ | ⟨z, hz⟩ | hz <;> (rw [hz]; rfl)
      · cases ho
    · cases ho
  · cases ho
def tdup2 (pc : Nat) (s : tS) : Option (Nat × tS) := match s.2.1 with
  | x :: y :: r => (match s.2.2.1[x]?, s.2.2.1[y]? with
    | some t, some u => (match tint t && (tint u || u.1 == 4) with
      | true => some (pc, (s.1, x :: y :: x :: y :: r, s.2.2.1, s.2.2.2))
      | false => none)
    | _, _ => none)
  | _ => none
theorem tdup2_ok {D : va_G} {G : tG} {w : jW} {ρ : Nat → Value} {s : tS} {nL pc : Nat} {v : Value} {o : Nat × tS} (h : tSat D G w ρ s) (ho : tdup2 (pc + 1) s = some o) : tRes D G w ρ s.2.2.1.length o (sx nL pc .dup2 v (cL ρ s) (cS ρ s)) := by
  unfold tdup2 at ho
  split at ho
  · rename_i x y r hs
    split at ho
    · rename_i t u ht hu
      split at ho
      · rename_i hp
        rw [Bool.and_eq_true, Bool.or_eq_true] at hp
        cases ho
        have hi : ∀ j ∈ x :: y :: r, j < s.2.2.1.length := fun j hj => h.2.1 j (by rw [hs]; exact hj)
        have hx0 := hi x List.mem_cons_self
        have hy0 := hi y (List.mem_cons_of_mem _ List.mem_cons_self)
        refine ⟨ρ, fun _ _ => rfl, h.re _ _ h.1 (fun j hj => ?_), ?_⟩
        · rcases List.mem_cons.mp hj with rfl | hj
          · exact hx0
          · rcases List.mem_cons.mp hj with rfl | hj
            · exact hy0
            · exact hi j hj
        · rw [tstk2 hs]
          show sx nL pc .dup2 v (cL ρ s) (ρ x :: ρ y :: r.map ρ) = some (pc + 1, cL ρ s, ρ x :: ρ y :: ρ x :: ρ y :: r.map ρ)
          obtain ⟨a, ha, -⟩ := vok_int hp.1 (tgetI h ht)
          rcases hp.2 with q | q
          · obtain ⟨b, hb, -⟩ := vok_int q (tgetI h hu)
            rw [ha, hb]; rfl
          · have hv := tgetI h hu
            obtain ⟨ku, ua, ub⟩ := u
            have e : ku = 4 := by simpa using q
            subst e
            obtain ⟨b, hb, -⟩ := hv
            rw [ha, hb]; rfl
      · cases ho
    · cases ho
  · cases ho
def tpop (p : vT → Bool) (pc : Nat) (s : tS) : Option (Nat × tS) := match s.2.1 with
  | x :: r => (match s.2.2.1[x]? with
    | some t => (match p t with
      | true => some (pc, (s.1, r, s.2.2.1, s.2.2.2))
      | false => none)
    | none => none)
  | _ => none
theorem tpop_ok {D : va_G} {G : tG} {w : jW} {ρ : Nat → Value} {s : tS} {p : vT → Bool} {pc : Nat} {o : Nat × tS} {R : Option jR} (h : tSat D G w ρ s) (ho : tpop p pc s = some o) (hR : ∀ x t r, s.2.1 = x :: r → p t = true → vok G t (ρ x) → R = some (pc, cL ρ s, r.map ρ)) : tRes D G w ρ s.2.2.1.length o R := by
  unfold tpop at ho
  split at ho
  · rename_i x r hs
    split at ho
    · rename_i t ht
      split at ho
      · rename_i hp
        cases ho
        exact tRes.same (h.re _ _ h.1 (fun j hj => h.2.1 j (by rw [hs]; exact List.mem_cons_of_mem _ hj))) (hR x t r hs hp (tgetI h ht))
      · cases ho
    · cases ho
  · cases ho
/-- a constant -/
def tcon (pc : Nat) (v : Value) (s : tS) : Option (Nat × tS) := match v with
  | .int c => some (pc, tpush s s.2.1 (0, c.toInt, c.toInt))
  | .long c => some (pc, tpush s s.2.1 (match c == 0 with | true => (7, 0, 0) | false => (3, 0, 0)))
  | .null => some (pc, tpush s s.2.1 (6, 0, 0))
  | _ => none
theorem tcon_ok {D : va_G} {G : tG} {w : jW} {ρ : Nat → Value} {s : tS} {pc : Nat} {v : Value} {o : Nat × tS} (h : tSat D G w ρ s) (ho : tcon pc v s = some o) : tRes D G w ρ s.2.2.1.length o (some (pc, cL ρ s, v :: cS ρ s)) := by
  unfold tcon at ho
  split at ho
  · cases ho
    exact tRes.push h h.2.1 ⟨_, rfl, Int.le_refl _, Int.le_refl _⟩ rfl
  · rename_i c
    cases ho
    refine tRes.push h h.2.1 ?_ rfl
    cases e : c == 0
    · exact ⟨c, rfl, fun q => by rw [q] at e; exact absurd e (by decide)⟩
    · have e2 : c = 0 := by simpa using e
      rw [e2]; rfl
  · cases ho
    exact tRes.push h h.2.1 rfl rfl
  · cases ho
/-- iinc -/
def tinc (nL pc k : Nat) (v : Value) (s : tS) : Option (Nat × tS) := match Nat.blt k nL with
  | true => (match tlk s.1 k with
    | some i => (match s.2.2.1[i]? with
      | some t => (match tint t with
        | true => (match v with
          | .int c => (match aDif 0 t (0, c.toInt, c.toInt) with
            | some (true, d) => some (pc, (tst (s.2.2.1 ++ [aBin 0 t (0, c.toInt, c.toInt)]) s.1 k s.2.2.1.length, s.2.1, s.2.2.1 ++ [aBin 0 t (0, c.toInt, c.toInt)], (3, s.2.2.1.length, i, 0, d) :: s.2.2.2))
            | _ => some (pc, (tst (s.2.2.1 ++ [ttop]) s.1 k s.2.2.1.length, s.2.1, s.2.2.1 ++ [ttop], s.2.2.2)))
          | _ => none)
        | false => none)
      | none => none)
    | none => none)
  | false => none
theorem tinc_ok {D : va_G} {G : tG} {w : jW} {ρ : Nat → Value} {s : tS} {nL pc k : Nat} {n : Int} {v : Value} {o : Nat × tS} (h : tSat D G w ρ s) (ho : tinc nL (pc + 3) k v s = some o) : tRes D G w ρ s.2.2.1.length o (sx nL pc (.iinc k n) v (cL ρ s) (cS ρ s)) := by
  unfold tinc at ho
  split at ho
  · rename_i hb
    split at ho
    · rename_i i hi
      split at ho
      · rename_i t ht
        split at ho
        · rename_i hp
          split at ho
          · rename_i c
            obtain ⟨x, hx, x1, x2⟩ := vok_int hp (tgetI h ht)
            have hlt := h.1 _ (tlk_mem hi)
            have hR : sx nL pc (.iinc k n) (.int c) (cL ρ s) (cS ρ s) = some (pc + 3, jst (cL ρ s) k (.int (x + c)), cS ρ s) := by
              simp only [sx, hb]
              rw [tlk_map, hi]
              simp only [Option.map_some, hx]
            have hn : ∀ (t9 : vT), vok G t9 (.int (x + c)) → tSat D G w (rset ρ s.2.2.1.length (.int (x + c))) (tst (s.2.2.1 ++ [t9]) s.1 k s.2.2.1.length, s.2.1, s.2.2.1 ++ [t9], s.2.2.2) ∧ cL (rset ρ s.2.2.1.length (.int (x + c))) (tst (s.2.2.1 ++ [t9]) s.1 k s.2.2.1.length, s.2.1, s.2.2.1 ++ [t9], s.2.2.2) = jst (cL ρ s) k (.int (x + c)) ∧ cS (rset ρ s.2.2.1.length (.int (x + c))) (tst (s.2.2.1 ++ [t9]) s.1 k s.2.2.1.length, s.2.1, s.2.2.1 ++ [t9], s.2.2.2) = cS ρ s := by
              intro t9 h9
              have h1 := h.new h9
              have hl : (tnew s t9).2.2.1.length = s.2.2.1.length + 1 := by simp [tnew]
              refine ⟨h1.re _ _ (tst_lt (fun q hq => by have := h.1 q hq; omega) (by omega)) (fun j hj => by have := h.2.1 j hj; omega), ?_, cS_agree (n := s.2.2.1.length) (s := (tst (s.2.2.1 ++ [t9]) s.1 k s.2.2.1.length, s.2.1, s.2.2.1 ++ [t9], s.2.2.2)) (fun j hj => rset_ne hj) h.2.1⟩
              have e := tst_ok h1 k s.2.2.1.length
              rw [rset_at, cL_agree (n := s.2.2.1.length) (s := tnew s t9) (fun j hj => rset_ne hj) h.1] at e
              exact e.symm
            split at ho
            · rename_i d hd
              cases ho
              obtain ⟨a1, a2, a3⟩ := hn _ (aBin_ok (k := 0) (t := t) (u := (0, c.toInt, c.toInt)) (x := x) (y := c) x1 x2 (Int.le_refl _) (Int.le_refl _))
              refine ⟨_, fun j hj => rset_ne hj, a1.fact (q := (3, s.2.2.1.length, i, 0, d)) (fun j hj => ?_) ?_, by rw [hR, ← a2, ← a3]⟩
              · have : j = s.2.2.1.length ∨ j = i := by simpa [fids] using hj
                show j < (s.2.2.1 ++ [_]).length
                simp
                omega
              · refine ⟨x + c, x, rset_at _ _ _, ?_, aDif_ok (k := 0) (t := t) (u := (0, c.toInt, c.toInt)) (x := x) (y := c) (b := true) x1 x2 (Int.le_refl _) (Int.le_refl _) hd⟩
                show rset ρ _ _ i = _
                rw [rset_ne hlt, hx]
            · cases ho
              obtain ⟨a1, a2, a3⟩ := hn ttop (top_ok G _)
              exact ⟨_, fun j hj => rset_ne hj, a1, by rw [hR, ← a2, ← a3]⟩
          · cases ho
        · cases ho
      · cases ho
    · cases ho
  · cases ho
def tgo (v : Value) (s : tS) : Option (Nat × tS) := match v with
  | .retAddr t => some (t, s)
  | _ => none
/-- a plain instruction -/
def tp (nL pc : Nat) (i : Instr) (v : Value) (s : tS) : Option (Nat × tS) := match i with
  | .iconst _ => tcon (pc + 1) v s
  | .bipush _ => tcon (pc + 2) v s
  | .sipush _ => tcon (pc + 3) v s
  | .lconst _ => tcon (pc + 1) v s
  | .aconst_null => tcon (pc + 1) .null s
  | .iload k => tlod tint (pc + 2) k s
  | .iload_n k => tlod tint (pc + 1) k.1 s
  | .lload k => tlod tlng (pc + 2) k s
  | .lload_n k => tlod tlng (pc + 1) k.1 s
  | .aload k => tlod trf (pc + 2) k s
  | .aload_n k => tlod trf (pc + 1) k.1 s
  | .istore k => tsto tint nL (pc + 2) k s
  | .istore_n k => tsto tint nL (pc + 1) k.1 s
  | .lstore k => tlst nL (pc + 2) k s
  | .lstore_n k => tlst nL (pc + 1) k.1 s
  | .astore k => tsto trf nL (pc + 2) k s
  | .astore_n k => tsto trf nL (pc + 1) k.1 s
  | .iinc k _ => tinc nL (pc + 3) k v s
  | .iadd => tbin 0 (pc + 1) s
  | .isub => tbin 1 (pc + 1) s
  | .imul => tbin 2 (pc + 1) s
  | .iand => tbin 3 (pc + 1) s
  | .iushr => tbin 4 (pc + 1) s
  | .ior => tbin 5 (pc + 1) s
  | .ixor => tbin 6 (pc + 1) s
  | .ishl => tbin 7 (pc + 1) s
  | .ishr => tbin 8 (pc + 1) s
  | .ineg => tun tint ttop (pc + 1) s
  | .ladd => tbin64 (pc + 1) s
  | .lsub => tbin64 (pc + 1) s
  | .lmul => tbin64 (pc + 1) s
  | .land => tbin64 (pc + 1) s
  | .lshr => tlshr (pc + 1) s
  | .i2l => tun tint (2, 0, 0) (pc + 1) s
  | .l2i => tun tlng ttop (pc + 1) s
  | .i2b => tun tint ttop (pc + 1) s
  | .dup => tdup (pc + 1) s
  | .dup2 => tdup2 (pc + 1) s
  | .pop => tpop t1 (pc + 1) s
  | .pop2 => tpop tlng (pc + 1) s
  | .goto _ => tgo v s
  | _ => none
theorem tp_ok {D : va_G} {G : tG} {w : jW} {ρ : Nat → Value} {s : tS} {nL pc : Nat} {i : Instr} {v : Value} {o : Nat × tS} (h : tSat D G w ρ s) (ho : tp nL pc i v s = some o) : tRes D G w ρ s.2.2.1.length o (sx nL pc i v (cL ρ s) (cS ρ s)) := by
  cases i with
  | iconst _ => exact tcon_ok h ho
  | bipush _ => exact tcon_ok h ho
  | sipush _ => exact tcon_ok h ho
  | lconst _ => exact tcon_ok h ho
  | aconst_null => exact tcon_ok h ho
  | iload k => exact tild_ok h ho
  | iload_n k => exact tild_ok h ho
  | lload k => exact tlld_ok h ho
  | lload_n k => exact tlld_ok h ho
  | aload k => exact tald_ok h ho
  | aload_n k => exact tald_ok h ho
  | istore k => exact tist_ok h ho
  | istore_n k => exact tist_ok h ho
  | lstore k => exact tlst_ok h ho
  | lstore_n k => exact tlst_ok h ho
  | astore k => exact tast_ok h ho
  | astore_n k => exact tast_ok h ho
  | iinc k n => exact tinc_ok h ho
  | iadd => exact tbin_ok (k := 0) (pc := pc + 1) h ho
  | isub => exact tbin_ok (k := 1) (pc := pc + 1) h ho
  | imul => exact tbin_ok (k := 2) (pc := pc + 1) h ho
  | iand => exact tbin_ok (k := 3) (pc := pc + 1) h ho
  | iushr => exact tbin_ok (k := 4) (pc := pc + 1) h ho
  | ior => exact tbin_ok (k := 5) (pc := pc + 1) h ho
  | ixor => exact tbin_ok (k := 6) (pc := pc + 1) h ho
  | ishl => exact tbin_ok (k := 7) (pc := pc + 1) h ho
  | ishr => exact tbin_ok (k := 8) (pc := pc + 1) h ho
  | ineg => exact tun_ok h ho (fun x t r hs hp hv => by obtain ⟨z, hz, -⟩ := vok_int hp hv; exact ⟨.int (-z), top_ok G _, by rw [tstk hs, hz]; rfl⟩)
  | ladd => exact tbin64_ok _ h ho
  | lsub => exact tbin64_ok _ h ho
  | lmul => exact tbin64_ok _ h ho
  | land => exact tbin64_ok _ h ho
  | lshr => exact tlshr_ok h ho
  | i2l => exact tun_ok h ho (fun x t r hs hp hv => by obtain ⟨z, hz, -⟩ := vok_int hp hv; exact ⟨.long z.toInt64, ⟨_, rfl⟩, by rw [tstk hs, hz]; rfl⟩)
  | l2i => exact tun_ok h ho (fun x t r hs hp hv => by obtain ⟨z, hz⟩ := vok_lng hp hv; exact ⟨.int z.toInt32, top_ok G _, by rw [tstk hs, hz]; rfl⟩)
  | i2b => exact tun_ok h ho (fun x t r hs hp hv => by obtain ⟨z, hz, -⟩ := vok_int hp hv; exact ⟨.int z.toInt8.toInt32, top_ok G _, by rw [tstk hs, hz]; rfl⟩)
  | dup => exact tdup_ok h ho
  | dup2 => exact tdup2_ok h ho
  | pop => exact tpop_ok h ho (fun x t r hs hp hv => by
      rw [tstk hs]
      rcases t1_ok hp hv with ⟨z, hz⟩ | ⟨z, hz⟩ | hz <;> (rw [hz]; rfl))
  | pop2 => exact tpop_ok h ho (fun x t r hs hp hv => by obtain ⟨z, hz⟩ := vok_lng hp hv; rw [tstk hs, hz]; rfl)
  | goto off =>
    have ho : tgo v s = some o := ho
    unfold tgo at ho
    split at ho
    · cases ho; exact tRes.same h rfl
    · cases ho
  | _ => cases ho
