/-! THE T LAYER (own work): a method is run over types and intervals, by evaluation. First: types of values and of cells. -/
abbrev vT : Type := Nat × Int × Int
abbrev tG : Type := Nat → Option Nat
/-- kinds: 0 an int between, 1 the same and not 0, 2 a long, 3 the same and not 0, 4 a reference, 5 the same or null, 6 null, 7 the long 0 -/
def vok (G : tG) (t : vT) (v : Value) : Prop := match t.1 with
  | 0 => ∃ x : Int32, v = .int x ∧ t.2.1 ≤ x.toInt ∧ x.toInt ≤ t.2.2
  | 1 => ∃ x : Int32, v = .int x ∧ t.2.1 ≤ x.toInt ∧ x.toInt ≤ t.2.2 ∧ x ≠ 0
  | 2 => ∃ x : Int64, v = .long x
  | 3 => ∃ x : Int64, v = .long x ∧ x ≠ 0
  | 4 => ∃ r : Nat, v = .ref r ∧ G r = some t.2.1.toNat
  | 5 => v = .null ∨ ∃ r : Nat, v = .ref r ∧ G r = some t.2.1.toNat
  | 6 => v = .null
  | 7 => v = .long 0
  | _ => False
def ile (a b : Int) : Bool := decide (a ≤ b)
theorem ile_ok {a b : Int} (h : ile a b = true) : a ≤ b := of_decide_eq_true h
def vsub (t u : vT) : Bool := match t.1, u.1 with
  | 0, 0 => ile u.2.1 t.2.1 && ile t.2.2 u.2.2
  | 1, 0 => ile u.2.1 t.2.1 && ile t.2.2 u.2.2
  | 1, 1 => ile u.2.1 t.2.1 && ile t.2.2 u.2.2
  | 0, 1 => ile u.2.1 t.2.1 && ile t.2.2 u.2.2 && (ile 1 t.2.1 || ile t.2.2 (-1))
  | 2, 2 => true
  | 3, 2 => true
  | 3, 3 => true
  | 4, 4 => t.2.1 == u.2.1
  | 4, 5 => t.2.1 == u.2.1
  | 5, 5 => t.2.1 == u.2.1
  | 6, 5 => true
  | 6, 6 => true
  | 7, 7 => true
  | 7, 2 => true
  | _, _ => false
theorem i32_0 {x : Int32} (h : x ≠ 0) : x.toInt ≠ 0 := fun q => h (Int32.toInt_inj.mp q)
theorem i32_n {x : Int32} (h : x.toInt ≠ 0) : x ≠ 0 := fun q => h (by rw [q]; rfl)
theorem vsub_ok {G : tG} {t u : vT} {v : Value} (h : vsub t u = true) (hv : vok G t v) : vok G u v := by
  obtain ⟨kt, ta, tb⟩ := t
  obtain ⟨ku, ua, ub⟩ := u
  unfold vsub at h
  dsimp only at h
  split at h
  · rw [Bool.and_eq_true] at h
    obtain ⟨x, h1, h2, h3⟩ := hv
    have a1 := ile_ok h.1
    have a2 := ile_ok h.2
    dsimp only at h2 h3
    exact ⟨x, h1, by show ua ≤ _; omega, by show _ ≤ ub; omega⟩
  · rw [Bool.and_eq_true] at h
    obtain ⟨x, h1, h2, h3, -⟩ := hv
    have a1 := ile_ok h.1
    have a2 := ile_ok h.2
    dsimp only at h2 h3
    exact ⟨x, h1, by show ua ≤ _; omega, by show _ ≤ ub; omega⟩
  · rw [Bool.and_eq_true] at h
    obtain ⟨x, h1, h2, h3, h4⟩ := hv
    have a1 := ile_ok h.1
    have a2 := ile_ok h.2
    dsimp only at h2 h3
    exact ⟨x, h1, by show ua ≤ _; omega, by show _ ≤ ub; omega, h4⟩
  · rw [Bool.and_eq_true, Bool.and_eq_true, Bool.or_eq_true] at h
    obtain ⟨x, h1, h2, h3⟩ := hv
    have a1 := ile_ok h.1.1
    have a2 := ile_ok h.1.2
    dsimp only at h2 h3
    refine ⟨x, h1, by show ua ≤ _; omega, by show _ ≤ ub; omega, i32_n ?_⟩
    rcases h.2 with q | q
    · have := ile_ok q; omega
    · have := ile_ok q; omega
  · exact hv
  · obtain ⟨x, h1, -⟩ := hv
    exact ⟨x, h1⟩
  · exact hv
  · have e : ta = ua := by simpa using h
    subst e
    exact hv
  · have e : ta = ua := by simpa using h
    subst e
    exact Or.inr hv
  · have e : ta = ua := by simpa using h
    subst e
    exact hv
  · exact Or.inl hv
  · exact hv
  · exact hv
  · exact ⟨0, hv⟩
  · cases h
def tcat (t : vT) : Nat := match t.1 with
  | 2 => 2
  | 3 => 2
  | 7 => 2
  | _ => 1
theorem vok_cat {G : tG} {t : vT} {v : Value} (h : vok G t v) : v.category = tcat t := by
  obtain ⟨k, a, b⟩ := t
  match k, h with
  | 0, h => obtain ⟨x, rfl, -⟩ := h; rfl
  | 1, h => obtain ⟨x, rfl, -⟩ := h; rfl
  | 2, h => obtain ⟨x, rfl⟩ := h; rfl
  | 3, h => obtain ⟨x, rfl, -⟩ := h; rfl
  | 4, h => obtain ⟨x, rfl, -⟩ := h; rfl
  | 5, h => rcases h with rfl | ⟨x, rfl, -⟩ <;> rfl
  | 6, h => rw [show v = .null from h]; rfl
  | 7, h => rw [show v = .long 0 from h]; rfl
  | k + 8, h => exact h.elim
theorem vok_mono {G G' : tG} {t : vT} {v : Value} (hg : ∀ a τ, G a = some τ → G' a = some τ) (h : vok G t v) : vok G' t v := by
  obtain ⟨k, a, b⟩ := t
  match k, h with
  | 0, h => exact h
  | 1, h => exact h
  | 2, h => exact h
  | 3, h => exact h
  | 4, h => obtain ⟨x, h1, h2⟩ := h; exact ⟨x, h1, hg _ _ h2⟩
  | 5, h =>
    rcases h with h1 | ⟨x, h1, h2⟩
    · exact Or.inl h1
    · exact Or.inr ⟨x, h1, hg _ _ h2⟩
  | 6, h => exact h
  | 7, h => exact h
  | k + 8, h => exact h
/-- an int, whatever its kind -/
def tint (t : vT) : Bool := match t.1 with
  | 0 => true
  | 1 => true
  | _ => false
theorem vok_int {G : tG} {t : vT} {v : Value} (ht : tint t = true) (h : vok G t v) : ∃ x : Int32, v = .int x ∧ t.2.1 ≤ x.toInt ∧ x.toInt ≤ t.2.2 := by
  obtain ⟨k, a, b⟩ := t
  match k, ht, h with
  | 0, _, h => exact h
  | 1, _, h => obtain ⟨x, h1, h2, h3, -⟩ := h; exact ⟨x, h1, h2, h3⟩
def tlng (t : vT) : Bool := match t.1 with
  | 2 => true
  | 3 => true
  | 7 => true
  | _ => false
theorem vok_lng {G : tG} {t : vT} {v : Value} (ht : tlng t = true) (h : vok G t v) : ∃ x : Int64, v = .long x := by
  obtain ⟨k, a, b⟩ := t
  match k, ht, h with
  | 2, _, h => exact h
  | 3, _, h => obtain ⟨x, h1, -⟩ := h; exact ⟨x, h1⟩
  | 7, _, h => exact ⟨0, h⟩
def trf (t : vT) : Bool := match t.1 with
  | 4 => true
  | 5 => true
  | 6 => true
  | _ => false
theorem vok_rf {G : tG} {t : vT} {v : Value} (ht : trf t = true) (h : vok G t v) : v = .null ∨ ∃ r : Nat, v = .ref r := by
  obtain ⟨k, a, b⟩ := t
  match k, ht, h with
  | 4, _, h => obtain ⟨x, h1, -⟩ := h; exact Or.inr ⟨x, h1⟩
  | 5, _, h =>
    rcases h with h1 | ⟨x, h1, -⟩
    · exact Or.inl h1
    · exact Or.inr ⟨x, h1⟩
  | 6, _, h => exact Or.inl h
/-- an object's type: its class, its fields; an array's: its kind, its length, what its elements are -/
def tcell (D : va_G) (G : tG) (τ : Nat) (c : Option jEl) : Prop := match tyO τ with
  | some o => ∃ V, c = some (.inr (o.1, V)) ∧ ∀ k t, o.2[k]? = some t → vok G t (V k)
  | none => match tyA τ with
    | some r => (match r.1 with
      | 0 => ∃ f, c = some (aI D r.2.1 f) ∧ ∀ j, j < r.2.1 → vok G r.2.2 (.int (f j))
      | 1 => ∃ f, c = some (aJ D r.2.1 f)
      | 2 => ∃ f, c = some (aZ D r.2.1 f) ∧ ∀ j, j < r.2.1 → vok G r.2.2 (.int (f j))
      | t => ∃ f, c = some (aR D t r.2.1 f) ∧ ∀ j, j < r.2.1 → vok G r.2.2 (va_rf (f j)))
    | none => False
def WOK (D : va_G) (G : tG) (w : jW) : Prop := ∀ a τ, G a = some τ → tcell D G τ (w.1 a)
theorem tcell_O {D : va_G} {G : tG} {τ : Nat} {c : Option jEl} {o : Nat × List vT} (ho : tyO τ = some o) : tcell D G τ c ↔ ∃ V, c = some (.inr (o.1, V)) ∧ ∀ k t, o.2[k]? = some t → vok G t (V k) := by
  unfold tcell; rw [ho]
theorem tcell_I {D : va_G} {G : tG} {τ n : Nat} {e : vT} {c : Option jEl} (ho : tyO τ = none) (ha : tyA τ = some (0, n, e)) : tcell D G τ c ↔ ∃ f, c = some (aI D n f) ∧ ∀ j, j < n → vok G e (.int (f j)) := by
  unfold tcell; rw [ho, ha]; exact Iff.rfl
theorem tcell_J {D : va_G} {G : tG} {τ n : Nat} {e : vT} {c : Option jEl} (ho : tyO τ = none) (ha : tyA τ = some (1, n, e)) : tcell D G τ c ↔ ∃ f, c = some (aJ D n f) := by
  unfold tcell; rw [ho, ha]; exact Iff.rfl
theorem tcell_Z {D : va_G} {G : tG} {τ n : Nat} {e : vT} {c : Option jEl} (ho : tyO τ = none) (ha : tyA τ = some (2, n, e)) : tcell D G τ c ↔ ∃ f, c = some (aZ D n f) ∧ ∀ j, j < n → vok G e (.int (f j)) := by
  unfold tcell; rw [ho, ha]; exact Iff.rfl
theorem tcell_R {D : va_G} {G : tG} {τ t n : Nat} {e : vT} {c : Option jEl} (ho : tyO τ = none) (ha : tyA τ = some (t + 3, n, e)) : tcell D G τ c ↔ ∃ f, c = some (aR D (t + 3) n f) ∧ ∀ j, j < n → vok G e (va_rf (f j)) := by
  unfold tcell; rw [ho, ha]; exact Iff.rfl
theorem tcell_mono {D : va_G} {G G' : tG} {τ : Nat} {c : Option jEl} (hg : ∀ a τ, G a = some τ → G' a = some τ) (h : tcell D G τ c) : tcell D G' τ c := by
  cases ho : tyO τ with
  | some o =>
    obtain ⟨V, h1, h2⟩ := (tcell_O ho).mp h
    exact (tcell_O ho).mpr ⟨V, h1, fun k t hk => vok_mono hg (h2 k t hk)⟩
  | none =>
    cases ha : tyA τ with
    | none => unfold tcell at h; rw [ho, ha] at h; exact h.elim
    | some r =>
      obtain ⟨k, n, e⟩ := r
      match k, ha with
      | 0, ha =>
        obtain ⟨f, h1, h2⟩ := (tcell_I ho ha).mp h
        exact (tcell_I ho ha).mpr ⟨f, h1, fun j hj => vok_mono hg (h2 j hj)⟩
      | 1, ha => exact (tcell_J ho ha).mpr ((tcell_J ho ha).mp h)
      | 2, ha =>
        obtain ⟨f, h1, h2⟩ := (tcell_Z ho ha).mp h
        exact (tcell_Z ho ha).mpr ⟨f, h1, fun j hj => vok_mono hg (h2 j hj)⟩
      | k + 3, ha =>
        obtain ⟨f, h1, h2⟩ := (tcell_R ho ha).mp h
        exact (tcell_R ho ha).mpr ⟨f, h1, fun j hj => vok_mono hg (h2 j hj)⟩
/-- a state of the run: locals and stack by ids; what is known of each id; facts.
    facts: (0, a, k, v) field k of a is v; (1, a, i, v) element i of a is v; (2, c, x, y) c compares the longs x and y; (3, x, y, _, d) x is y and d -/
abbrev tF : Type := Nat × Nat × Nat × Nat × Int
abbrev tS : Type := List (Nat × Nat) × List Nat × List vT × List tF
def fids (q : tF) : List Nat := match q.1 with
  | 0 => [q.2.1, q.2.2.2.1]
  | 1 => [q.2.1, q.2.2.1, q.2.2.2.1]
  | 2 => [q.2.1, q.2.2.1, q.2.2.2.1]
  | _ => [q.2.1, q.2.2.1]
def fok (D : va_G) (w : jW) (ρ : Nat → Value) (q : tF) : Prop := match q.1 with
  | 0 => ∃ (a ci : Nat) (V : Nat → Value), ρ q.2.1 = .ref a ∧ w.1 a = some (.inr (ci, V)) ∧ V q.2.2.1 = ρ q.2.2.2.1
  | 1 => ∃ (a t n : Nat) (f : Nat → Option Nat) (i : Int32), ρ q.2.1 = .ref a ∧ ρ q.2.2.1 = .int i ∧ w.1 a = some (aR D t n f) ∧ va_rf (f i.toNatClampNeg) = ρ q.2.2.2.1
  | 2 => ∃ x y : Int64, ρ q.2.2.1 = .long x ∧ ρ q.2.2.2.1 = .long y ∧ ρ q.2.1 = .int (lg_cmp x y)
  | _ => ∃ x y : Int32, ρ q.2.1 = .int x ∧ ρ q.2.2.1 = .int y ∧ x.toInt = y.toInt + q.2.2.2.2
theorem fok_agree {D : va_G} {w : jW} {ρ ρ' : Nat → Value} {q : tF} (h : ∀ i ∈ fids q, ρ' i = ρ i) (hf : fok D w ρ q) : fok D w ρ' q := by
  obtain ⟨k, a, b, c, d⟩ := q
  match k, h, hf with
  | 0, h, hf =>
    have e1 := h a (by simp [fids])
    have e2 := h c (by simp [fids])
    obtain ⟨x, ci, V, h1, h2, h3⟩ := hf
    exact ⟨x, ci, V, e1.trans h1, h2, h3.trans e2.symm⟩
  | 1, h, hf =>
    have e1 := h a (by simp [fids])
    have e2 := h b (by simp [fids])
    have e3 := h c (by simp [fids])
    obtain ⟨x, t, n, f, i, h1, h2, h3, h4⟩ := hf
    exact ⟨x, t, n, f, i, e1.trans h1, e2.trans h2, h3, h4.trans e3.symm⟩
  | 2, h, hf =>
    have e1 := h a (by simp [fids])
    have e2 := h b (by simp [fids])
    have e3 := h c (by simp [fids])
    obtain ⟨x, y, h1, h2, h3⟩ := hf
    exact ⟨x, y, e2.trans h1, e3.trans h2, e1.trans h3⟩
  | k + 3, h, hf =>
    have e1 := h a (by simp [fids])
    have e2 := h b (by simp [fids])
    obtain ⟨x, y, h1, h2, h3⟩ := hf
    exact ⟨x, y, e1.trans h1, e2.trans h2, h3⟩
def tSat (D : va_G) (G : tG) (w : jW) (ρ : Nat → Value) (s : tS) : Prop :=
  (∀ q ∈ s.1, q.2 < s.2.2.1.length) ∧ (∀ i ∈ s.2.1, i < s.2.2.1.length) ∧ (∀ q ∈ s.2.2.2, ∀ i ∈ fids q, i < s.2.2.1.length) ∧ (∀ i t, s.2.2.1[i]? = some t → vok G t (ρ i)) ∧ ∀ q ∈ s.2.2.2, fok D w ρ q
abbrev cL (ρ : Nat → Value) (s : tS) : List (Nat × Value) := s.1.map (fun q => (q.1, ρ q.2))
abbrev cS (ρ : Nat → Value) (s : tS) : List Value := s.2.1.map ρ
def rset (ρ : Nat → Value) (n : Nat) (v : Value) : Nat → Value := fun i => if i = n then v else ρ i
theorem rset_at (ρ : Nat → Value) (n : Nat) (v : Value) : rset ρ n v n = v := by simp [rset]
theorem rset_ne {ρ : Nat → Value} {n i : Nat} {v : Value} (h : i < n) : rset ρ n v i = ρ i := by simp [rset, Nat.ne_of_lt h]
theorem cL_agree {ρ ρ' : Nat → Value} {s : tS} {n : Nat} (h : ∀ i, i < n → ρ' i = ρ i) (hs : ∀ q ∈ s.1, q.2 < n) : cL ρ' s = cL ρ s := List.map_congr_left (fun q hq => by rw [h _ (hs q hq)])
theorem cS_agree {ρ ρ' : Nat → Value} {s : tS} {n : Nat} (h : ∀ i, i < n → ρ' i = ρ i) (hs : ∀ i ∈ s.2.1, i < n) : cS ρ' s = cS ρ s := List.map_congr_left (fun q hq => h _ (hs q hq))
/-- a new id -/
def tnew (s : tS) (t : vT) : tS := (s.1, s.2.1, s.2.2.1 ++ [t], s.2.2.2)
theorem tSat.new {D : va_G} {G : tG} {w : jW} {ρ : Nat → Value} {s : tS} {t : vT} {v : Value} (h : tSat D G w ρ s) (hv : vok G t v) : tSat D G w (rset ρ s.2.2.1.length v) (tnew s t) := by
  obtain ⟨h1, h2, h3, h4, h5⟩ := h
  have hl : (tnew s t).2.2.1.length = s.2.2.1.length + 1 := by simp [tnew]
  refine ⟨fun q hq => ?_, fun i hi => ?_, fun q hq i hi => ?_, fun i u hi => ?_, fun q hq => ?_⟩
  · rw [hl]; have := h1 q hq; omega
  · rw [hl]; have := h2 i hi; omega
  · rw [hl]; have := h3 q hq i hi; omega
  · have hi : (s.2.2.1 ++ [t])[i]? = some u := hi
    by_cases e : i < s.2.2.1.length
    · rw [List.getElem?_append_left e] at hi
      rw [rset_ne e]
      exact h4 i u hi
    · have : i < s.2.2.1.length + 1 := by
        have := (List.getElem?_eq_some_iff.mp hi).1
        simpa using this
      have e2 : i = s.2.2.1.length := by omega
      subst e2
      rw [rset_at]
      simp at hi
      rw [← hi]; exact hv
  · exact fok_agree (fun i hi => rset_ne (h3 q hq i hi)) (h5 q hq)
theorem tSat.len {D : va_G} {G : tG} {w : jW} {ρ : Nat → Value} {s : tS} (h : tSat D G w ρ s) {i : Nat} (hi : i < s.2.2.1.length) : ∃ t, s.2.2.1[i]? = some t := ⟨_, List.getElem?_eq_getElem hi⟩
/-- other locals, another stack -/
theorem tSat.re {D : va_G} {G : tG} {w : jW} {ρ : Nat → Value} {s : tS} (h : tSat D G w ρ s) (L : List (Nat × Nat)) (st : List Nat) (hL : ∀ q ∈ L, q.2 < s.2.2.1.length) (hS : ∀ i ∈ st, i < s.2.2.1.length) : tSat D G w ρ (L, st, s.2.2.1, s.2.2.2) := ⟨hL, hS, h.2.2.1, h.2.2.2.1, h.2.2.2.2⟩
/-- one more fact -/
theorem tSat.fact {D : va_G} {G : tG} {w : jW} {ρ : Nat → Value} {s : tS} (h : tSat D G w ρ s) {q : tF} (hi : ∀ i ∈ fids q, i < s.2.2.1.length) (hf : fok D w ρ q) : tSat D G w ρ (s.1, s.2.1, s.2.2.1, q :: s.2.2.2) := by
  refine ⟨h.1, h.2.1, fun p hp => ?_, h.2.2.2.1, fun p hp => ?_⟩
  · rcases List.mem_cons.mp hp with rfl | hp
    · exact hi
    · exact h.2.2.1 p hp
  · rcases List.mem_cons.mp hp with rfl | hp
    · exact hf
    · exact h.2.2.2.2 p hp
/-- fewer facts -/
theorem tSat.fewer {D : va_G} {G : tG} {w : jW} {ρ : Nat → Value} {s : tS} (h : tSat D G w ρ s) (fs : List tF) (hq : ∀ q ∈ fs, q ∈ s.2.2.2) : tSat D G w ρ (s.1, s.2.1, s.2.2.1, fs) := ⟨h.1, h.2.1, fun p hp => h.2.2.1 p (hq p hp), h.2.2.2.1, fun p hp => h.2.2.2.2 p (hq p hp)⟩
/-- an id known better -/
theorem tSat.ref {D : va_G} {G : tG} {w : jW} {ρ : Nat → Value} {s : tS} (h : tSat D G w ρ s) {n : Nat} {t : vT} (hv : vok G t (ρ n)) : tSat D G w ρ (s.1, s.2.1, s.2.2.1.set n t, s.2.2.2) := by
  obtain ⟨h1, h2, h3, h4, h5⟩ := h
  refine ⟨fun q hq => ?_, fun i hi => ?_, fun q hq i hi => ?_, fun i u hi => ?_, h5⟩
  · show _ < (s.2.2.1.set n t).length; rw [List.length_set]; exact h1 q hq
  · show _ < (s.2.2.1.set n t).length; rw [List.length_set]; exact h2 i hi
  · show _ < (s.2.2.1.set n t).length; rw [List.length_set]; exact h3 q hq i hi
  · have hi : (s.2.2.1.set n t)[i]? = some u := hi
    by_cases e : n = i
    · subst e
      have : n < (s.2.2.1.set n t).length := (List.getElem?_eq_some_iff.mp hi).1
      rw [List.length_set] at this
      rw [List.getElem?_set_self this] at hi
      cases hi
      exact hv
    · rw [List.getElem?_set_ne e] at hi
      exact h4 i u hi
