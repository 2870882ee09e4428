/-! THE T LAYER: plain instructions (own work) -/
abbrev ttop : vT := (0, -2147483648, 2147483647)
theorem top_ok (G : tG) (x : Int32) : vok G ttop (.int x) := ⟨x, rfl, jlo x, by have := jhi x; show x.toInt ≤ 2147483647; omega⟩
def tlk : List (Nat × Nat) → Nat → Option Nat
  | [], _ => none
  | q :: l, i => match Nat.beq q.1 i with
    | true => some q.2
    | false => tlk l i
theorem tlk_map (ρ : Nat → Value) (L : List (Nat × Nat)) (k : Nat) : jlk (L.map (fun q => (q.1, ρ q.2))) k = (tlk L k).map ρ := by
  induction L with
  | nil => rfl
  | cons q l ih =>
    simp only [List.map_cons, jlk, tlk]
    cases Nat.beq q.1 k
    · exact ih
    · rfl
theorem tlk_mem {L : List (Nat × Nat)} {k i : Nat} (h : tlk L k = some i) : (k, i) ∈ L := by
  induction L with
  | nil => cases h
  | cons q l ih =>
    unfold tlk at h
    split at h
    · rename_i hb
      have := Nat.eq_of_beq_eq_true hb
      cases h
      rw [← this]
      exact List.mem_cons_self
    · exact List.mem_cons_of_mem _ (ih h)
def tlg (vs : List vT) (i : Nat) : Bool := match vs[i]? with
  | some t => tcat t == 2
  | none => false
def tst (vs : List vT) (L : List (Nat × Nat)) (k i : Nat) : List (Nat × Nat) := (k, i) :: L.filter (fun q => !(q.1 == k) && !(q.1 + 1 == k && tlg vs q.2))
def tst2 (vs : List vT) (L : List (Nat × Nat)) (k i : Nat) : List (Nat × Nat) := (k, i) :: L.filter (fun q => !(q.1 == k) && (!(q.1 == k + 1) && !(q.1 + 1 == k && tlg vs q.2)))
theorem tlg_ok {D : va_G} {G : tG} {w : jW} {ρ : Nat → Value} {s : tS} (h : tSat D G w ρ s) {q : Nat × Nat} (hq : q ∈ s.1) : ((ρ q.2).category == 2) = tlg s.2.2.1 q.2 := by
  obtain ⟨t, ht⟩ := h.len (h.1 q hq)
  unfold tlg
  rw [ht, vok_cat (h.2.2.2.1 _ _ ht)]
theorem tst_ok {D : va_G} {G : tG} {w : jW} {ρ : Nat → Value} {s : tS} (h : tSat D G w ρ s) (k i : Nat) : jst (cL ρ s) k (ρ i) = (tst s.2.2.1 s.1 k i).map (fun q => (q.1, ρ q.2)) := by
  unfold jst tst
  simp only [List.map_cons, List.filter_map]
  congr 2
  apply List.filter_congr
  intro q hq
  simp only [Function.comp]
  rw [tlg_ok h hq]
theorem tst2_ok {D : va_G} {G : tG} {w : jW} {ρ : Nat → Value} {s : tS} (h : tSat D G w ρ s) (k i : Nat) : jst2 (cL ρ s) k (ρ i) = (tst2 s.2.2.1 s.1 k i).map (fun q => (q.1, ρ q.2)) := by
  unfold jst2 tst2
  simp only [List.map_cons, List.filter_map]
  congr 2
  apply List.filter_congr
  intro q hq
  simp only [Function.comp]
  rw [tlg_ok h hq]
theorem tst_lt {vs : List vT} {L : List (Nat × Nat)} {k i n : Nat} (hL : ∀ q ∈ L, q.2 < n) (hi : i < n) : ∀ q ∈ tst vs L k i, q.2 < n := fun q hq => by
  rcases List.mem_cons.mp hq with rfl | h
  · exact hi
  · exact hL q (List.mem_filter.mp h).1
theorem tst2_lt {vs : List vT} {L : List (Nat × Nat)} {k i n : Nat} (hL : ∀ q ∈ L, q.2 < n) (hi : i < n) : ∀ q ∈ tst2 vs L k i, q.2 < n := fun q hq => by
  rcases List.mem_cons.mp hq with rfl | h
  · exact hi
  · exact hL q (List.mem_filter.mp h).1
def tpush (s : tS) (r : List Nat) (t : vT) : tS := (s.1, s.2.2.1.length :: r, s.2.2.1 ++ [t], s.2.2.2)
theorem tpush_ok {D : va_G} {G : tG} {w : jW} {ρ : Nat → Value} {s : tS} (h : tSat D G w ρ s) {r : List Nat} {t : vT} {v : Value} (hr : ∀ i ∈ r, i < s.2.2.1.length) (hv : vok G t v) : tSat D G w (rset ρ s.2.2.1.length v) (tpush s r t) ∧ cL (rset ρ s.2.2.1.length v) (tpush s r t) = cL ρ s ∧ cS (rset ρ s.2.2.1.length v) (tpush s r t) = v :: r.map ρ := by
  have h1 := h.new hv
  have hl : (tnew s t).2.2.1.length = s.2.2.1.length + 1 := by simp [tnew]
  refine ⟨h1.re s.1 (s.2.2.1.length :: r) (fun q hq => by have := h.1 q hq; omega) (fun i hi => ?_), cL_agree (n := s.2.2.1.length) (s := tpush s r t) (fun i hi => rset_ne hi) h.1, ?_⟩
  · rcases List.mem_cons.mp hi with rfl | hi
    · omega
    · have := hr i hi; omega
  · show rset ρ _ v _ :: r.map (rset ρ _ v) = _
    rw [rset_at]
    congr 1
    exact List.map_congr_left (fun i hi => rset_ne (hr i hi))
/-- what a plain instruction comes to -/
def tRes (D : va_G) (G : tG) (w : jW) (ρ : Nat → Value) (n : Nat) (o : Nat × tS) (R : Option jR) : Prop := ∃ ρ', (∀ i, i < n → ρ' i = ρ i) ∧ tSat D G w ρ' o.2 ∧ R = some (o.1, cL ρ' o.2, cS ρ' o.2)
theorem tRes.push {D : va_G} {G : tG} {w : jW} {ρ : Nat → Value} {s : tS} {pc : Nat} {R : Option jR} (h : tSat D G w ρ s) {r : List Nat} {t : vT} {v : Value} (hr : ∀ i ∈ r, i < s.2.2.1.length) (hv : vok G t v) (hR : R = some (pc, cL ρ s, v :: r.map ρ)) : tRes D G w ρ s.2.2.1.length (pc, tpush s r t) R := by
  obtain ⟨h1, h2, h3⟩ := tpush_ok h hr hv
  exact ⟨_, fun i hi => rset_ne hi, h1, by rw [hR, h2, h3]⟩
theorem tRes.same {D : va_G} {G : tG} {w : jW} {ρ : Nat → Value} {s' : tS} {pc n : Nat} {R : Option jR} (h : tSat D G w ρ s') (hR : R = some (pc, cL ρ s', cS ρ s')) : tRes D G w ρ n (pc, s') R := ⟨ρ, fun _ _ => rfl, h, hR⟩
theorem tRes.fact {D : va_G} {G : tG} {w : jW} {ρ : Nat → Value} {s : tS} {pc : Nat} {R : Option jR} (h : tSat D G w ρ s) {r : List Nat} {t : vT} {v : Value} (hr : ∀ i ∈ r, i < s.2.2.1.length) (hv : vok G t v) (hR : R = some (pc, cL ρ s, v :: r.map ρ)) {q : tF} (hi : ∀ i ∈ fids q, i < s.2.2.1.length + 1) (hf : fok D w (rset ρ s.2.2.1.length v) q) : tRes D G w ρ s.2.2.1.length (pc, (s.1, s.2.2.1.length :: r, s.2.2.1 ++ [t], q :: s.2.2.2)) R := by
  obtain ⟨h1, h2, h3⟩ := tpush_ok h hr hv
  refine ⟨_, fun i hi => rset_ne hi, h1.fact (q := q) (fun i hi2 => ?_) hf, by rw [hR, ← h2, ← h3]; rfl⟩
  have := hi i hi2
  show i < (s.2.2.1 ++ [t]).length
  simp; exact this
-- loads and stores
def tlod (p : vT → Bool) (pc k : Nat) (s : tS) : Option (Nat × tS) := match tlk s.1 k with
  | some i => (match s.2.2.1[i]? with
    | some t => (match p t with
      | true => some (pc, (s.1, i :: s.2.1, s.2.2.1, s.2.2.2))
      | false => none)
    | none => none)
  | none => none
theorem tlod_ok {D : va_G} {G : tG} {w : jW} {ρ : Nat → Value} {s : tS} {p : vT → Bool} {pc k : Nat} {o : Nat × tS} (h : tSat D G w ρ s) (ho : tlod p pc k s = some o) : ∃ i t, tlk s.1 k = some i ∧ p t = true ∧ vok G t (ρ i) ∧ o.1 = pc ∧ tSat D G w ρ o.2 ∧ cL ρ o.2 = cL ρ s ∧ cS ρ o.2 = ρ i :: cS ρ s := by
  unfold tlod at ho
  split at ho
  · rename_i i hi
    split at ho
    · rename_i t ht
      split at ho
      · rename_i hp
        cases ho
        have hlt := h.1 _ (tlk_mem hi)
        exact ⟨i, t, hi, hp, h.2.2.2.1 _ _ ht, rfl, h.re _ _ h.1 (fun j hj => by
          rcases List.mem_cons.mp hj with rfl | hj
          · exact hlt
          · exact h.2.1 j hj), rfl, rfl⟩
      · cases ho
    · cases ho
  · cases ho
theorem tild_ok {D : va_G} {G : tG} {w : jW} {ρ : Nat → Value} {s : tS} {pc k : Nat} {o : Nat × tS} (h : tSat D G w ρ s) (ho : tlod tint pc k s = some o) : tRes D G w ρ s.2.2.1.length o (sild (cL ρ s) pc k (cS ρ s)) := by
  obtain ⟨i, t, h1, h2, h3, h4, h5, h6, h7⟩ := tlod_ok h ho
  obtain ⟨x, hx, -⟩ := vok_int h2 h3
  refine ⟨ρ, fun _ _ => rfl, h5, ?_⟩
  unfold sild
  rw [tlk_map, h1, h6, h7, h4]
  simp only [Option.map_some, hx]
theorem tlld_ok {D : va_G} {G : tG} {w : jW} {ρ : Nat → Value} {s : tS} {pc k : Nat} {o : Nat × tS} (h : tSat D G w ρ s) (ho : tlod tlng pc k s = some o) : tRes D G w ρ s.2.2.1.length o (slld (cL ρ s) pc k (cS ρ s)) := by
  obtain ⟨i, t, h1, h2, h3, h4, h5, h6, h7⟩ := tlod_ok h ho
  obtain ⟨x, hx⟩ := vok_lng h2 h3
  refine ⟨ρ, fun _ _ => rfl, h5, ?_⟩
  unfold slld
  rw [tlk_map, h1, h6, h7, h4]
  simp only [Option.map_some, hx]
theorem tald_ok {D : va_G} {G : tG} {w : jW} {ρ : Nat → Value} {s : tS} {pc k : Nat} {o : Nat × tS} (h : tSat D G w ρ s) (ho : tlod trf pc k s = some o) : tRes D G w ρ s.2.2.1.length o (sald (cL ρ s) pc k (cS ρ s)) := by
  obtain ⟨i, t, h1, h2, h3, h4, h5, h6, h7⟩ := tlod_ok h ho
  refine ⟨ρ, fun _ _ => rfl, h5, ?_⟩
  unfold sald
  rw [tlk_map, h1, h6, h7, h4]
  rcases vok_rf h2 h3 with hx | ⟨r, hx⟩ <;> simp only [Option.map_some, hx]
def tsto (p : vT → Bool) (nL pc k : Nat) (s : tS) : Option (Nat × tS) := match Nat.blt k nL with
  | true => (match s.2.1 with
    | i :: r => (match s.2.2.1[i]? with
      | some t => (match p t with
        | true => some (pc, (tst s.2.2.1 s.1 k i, r, s.2.2.1, s.2.2.2))
        | false => none)
      | none => none)
    | _ => none)
  | false => none
theorem tsto_ok {D : va_G} {G : tG} {w : jW} {ρ : Nat → Value} {s : tS} {p : vT → Bool} {nL pc k : Nat} {o : Nat × tS} (h : tSat D G w ρ s) (ho : tsto p nL pc k s = some o) : ∃ i t r, Nat.blt k nL = true ∧ s.2.1 = i :: r ∧ p t = true ∧ vok G t (ρ i) ∧ o.1 = pc ∧ tSat D G w ρ o.2 ∧ cL ρ o.2 = jst (cL ρ s) k (ρ i) ∧ cS ρ o.2 = r.map ρ := by
  unfold tsto at ho
  split at ho
  · rename_i hb
    split at ho
    · rename_i i r hs
      split at ho
      · rename_i t ht
        split at ho
        · rename_i hp
          cases ho
          have hi : ∀ j ∈ i :: r, j < s.2.2.1.length := fun j hj => h.2.1 j (by rw [hs]; exact hj)
          exact ⟨i, t, r, hb, hs, hp, h.2.2.2.1 _ _ ht, rfl, h.re _ _ (tst_lt h.1 (hi i List.mem_cons_self)) (fun j hj => hi j (List.mem_cons_of_mem _ hj)), (tst_ok h k i).symm, rfl⟩
        · cases ho
      · cases ho
    · cases ho
  · cases ho
theorem tist_ok {D : va_G} {G : tG} {w : jW} {ρ : Nat → Value} {s : tS} {nL pc k : Nat} {o : Nat × tS} (h : tSat D G w ρ s) (ho : tsto tint nL pc k s = some o) : tRes D G w ρ s.2.2.1.length o (sist nL k pc (cL ρ s) (cS ρ s)) := by
  obtain ⟨i, t, r, hb, hs, h2, h3, h4, h5, h6, h7⟩ := tsto_ok h ho
  obtain ⟨x, hx, -⟩ := vok_int h2 h3
  refine ⟨ρ, fun _ _ => rfl, h5, ?_⟩
  unfold sist
  have e : cS ρ s = ρ i :: r.map ρ := by show s.2.1.map ρ = _; rw [hs]; rfl
  rw [hb, e, h6, h7, h4, hx]
theorem tast_ok {D : va_G} {G : tG} {w : jW} {ρ : Nat → Value} {s : tS} {nL pc k : Nat} {o : Nat × tS} (h : tSat D G w ρ s) (ho : tsto trf nL pc k s = some o) : tRes D G w ρ s.2.2.1.length o (sast nL k pc (cL ρ s) (cS ρ s)) := by
  obtain ⟨i, t, r, hb, hs, h2, h3, h4, h5, h6, h7⟩ := tsto_ok h ho
  refine ⟨ρ, fun _ _ => rfl, h5, ?_⟩
  unfold sast
  have e : cS ρ s = ρ i :: r.map ρ := by show s.2.1.map ρ = _; rw [hs]; rfl
  rw [hb, e, h6, h7, h4]
  rcases vok_rf h2 h3 with hx | ⟨y, hx⟩ <;> rw [hx]
def tlst (nL pc k : Nat) (s : tS) : Option (Nat × tS) := match Nat.blt (k + 1) nL with
  | true => (match s.2.1 with
    | i :: r => (match s.2.2.1[i]? with
      | some t => (match tlng t with
        | true => some (pc, (tst2 s.2.2.1 s.1 k i, r, s.2.2.1, s.2.2.2))
        | false => none)
      | none => none)
    | _ => none)
  | false => none
theorem tlst_ok {D : va_G} {G : tG} {w : jW} {ρ : Nat → Value} {s : tS} {nL pc k : Nat} {o : Nat × tS} (h : tSat D G w ρ s) (ho : tlst nL pc k s = some o) : tRes D G w ρ s.2.2.1.length o (slst nL k pc (cL ρ s) (cS ρ s)) := by
  unfold tlst at ho
  split at ho
  · rename_i hb
    split at ho
    · rename_i i r hs
      split at ho
      · rename_i t ht
        split at ho
        · rename_i hp
          cases ho
          have hi : ∀ j ∈ i :: r, j < s.2.2.1.length := fun j hj => h.2.1 j (by rw [hs]; exact hj)
          obtain ⟨x, hx⟩ := vok_lng hp (h.2.2.2.1 _ _ ht)
          refine ⟨ρ, fun _ _ => rfl, h.re _ _ (tst2_lt h.1 (hi i List.mem_cons_self)) (fun j hj => hi j (List.mem_cons_of_mem _ hj)), ?_⟩
          unfold slst
          have e : cS ρ s = ρ i :: r.map ρ := by show s.2.1.map ρ = _; rw [hs]; rfl
          have e2 := tst2_ok h k i
          rw [hb, e, hx]
          rw [hx] at e2
          show some (pc, jst2 (cL ρ s) k (.long x), r.map ρ) = _
          rw [e2]
        · cases ho
      · cases ho
    · cases ho
  · cases ho
-- numbers
def inr (a b : Int) : Bool := ile (-2147483648) a && ile b 2147483647
def aRng (a b : Int) : vT := match inr a b with
  | true => (0, a, b)
  | false => ttop
def aMul (t u : vT) : vT := match ile 0 t.2.1 && ile 0 u.2.1 with
  | true => aRng 0 (t.2.2 * u.2.2)
  | false => ttop
def aAnd2 (t : vT) : vT := match ile 0 t.2.1 with
  | true => (0, 0, t.2.2)
  | false => ttop
def aAnd (t u : vT) : vT := match ile 0 u.2.1 with
  | true => (0, 0, u.2.2)
  | false => aAnd2 t
def aUsh (u : vT) : vT := match u.2.1 == u.2.2 && (ile 1 u.2.1 && ile u.2.1 31) with
  | true => (0, 0, 2 ^ (32 - u.2.1.toNat) - 1)
  | false => ttop
def aBit (t : vT) : Bool := ile 0 t.2.1 && ile t.2.2 1
def aOr (t u : vT) : vT := match aBit t && aBit u with
  | true => (0, 0, 1)
  | false => ttop
/-- code 0 add, 1 sub, 2 mul, 3 and, 4 ushr, 5 or, else nothing known -/
def aBin (k : Nat) (t u : vT) : vT := match k with
  | 0 => aRng (t.2.1 + u.2.1) (t.2.2 + u.2.2)
  | 1 => aRng (t.2.1 - u.2.2) (t.2.2 - u.2.1)
  | 2 => aMul t u
  | 3 => aAnd t u
  | 4 => aUsh u
  | 5 => aOr t u
  | _ => ttop
def aDifB (t u : vT) : Option (Bool × Int) := match u.2.1 == u.2.2 with
  | true => some (true, u.2.1)
  | false => (match t.2.1 == t.2.2 with
    | true => some (false, t.2.1)
    | false => none)
def aDifA (t u : vT) : Option (Bool × Int) := match inr (t.2.1 + u.2.1) (t.2.2 + u.2.2) with
  | true => aDifB t u
  | false => none
def aDifS (t u : vT) : Option (Bool × Int) := match inr (t.2.1 - u.2.2) (t.2.2 - u.2.1) && u.2.1 == u.2.2 with
  | true => some (true, -u.2.1)
  | false => none
/-- by how much it differs from one of the two -/
def aDif (k : Nat) (t u : vT) : Option (Bool × Int) := match k with
  | 0 => aDifA t u
  | 1 => aDifS t u
  | _ => none
theorem aRng_ok {G : tG} {a b : Int} {z : Int32} (h : inr a b = true → a ≤ z.toInt ∧ z.toInt ≤ b) : vok G (aRng a b) (.int z) := by
  unfold aRng
  split
  · rename_i q
    exact ⟨z, rfl, (h q).1, (h q).2⟩
  · exact top_ok G z
theorem inr_ok {a b : Int} (h : inr a b = true) : -2147483648 ≤ a ∧ b ≤ 2147483647 := by
  unfold inr at h
  rw [Bool.and_eq_true] at h
  exact ⟨ile_ok h.1, ile_ok h.2⟩
theorem t_add {x y : Int32} (h1 : -2147483648 ≤ x.toInt + y.toInt) (h2 : x.toInt + y.toInt ≤ 2147483647) : (x + y).toInt = x.toInt + y.toInt := by
  rw [Int32.toInt_add]; exact Int.bmod_eq_of_le (by omega) (by omega)
theorem t_sub {x y : Int32} (h1 : -2147483648 ≤ x.toInt - y.toInt) (h2 : x.toInt - y.toInt ≤ 2147483647) : (x - y).toInt = x.toInt - y.toInt := by
  rw [Int32.toInt_sub]; exact Int.bmod_eq_of_le (by omega) (by omega)
theorem t_mul {x y : Int32} (h1 : -2147483648 ≤ x.toInt * y.toInt) (h2 : x.toInt * y.toInt ≤ 2147483647) : (x * y).toInt = x.toInt * y.toInt := by
  rw [Int32.toInt_mul]; exact Int.bmod_eq_of_le (by omega) (by omega)
theorem t_nn {x : Int32} (h : 0 ≤ x.toInt) : x.toInt = (x.toBitVec.toNat : Int) := by
  show x.toBitVec.toInt = _
  have h : 0 ≤ x.toBitVec.toInt := h
  rw [BitVec.toInt_eq_toNat_cond] at h ⊢
  have := x.toBitVec.isLt
  split <;> split at h <;> omega
theorem t_of {x : Int32} (h : x.toBitVec.toNat < 2147483648) : x.toInt = (x.toBitVec.toNat : Int) := by
  show x.toBitVec.toInt = _
  rw [BitVec.toInt_eq_toNat_cond]
  rw [if_pos (by omega)]
theorem t_and {x y : Int32} (h : 0 ≤ y.toInt) : 0 ≤ (x &&& y).toInt ∧ (x &&& y).toInt ≤ y.toInt := by
  have e : (x &&& y).toBitVec.toNat = x.toBitVec.toNat &&& y.toBitVec.toNat := by
    rw [Int32.toBitVec_and, BitVec.toNat_and]
  have hle : x.toBitVec.toNat &&& y.toBitVec.toNat ≤ y.toBitVec.toNat := Nat.and_le_right
  have e2 := t_nn h
  have hy : y.toBitVec.toNat < 2147483648 := by have := jhi y; omega
  have e3 := t_of (x := x &&& y) (by rw [e]; omega)
  rw [e3, e, e2]
  omega
theorem t_and_c (x y : Int32) : x &&& y = y &&& x := Int32.and_comm x y
theorem t_ushr {x y : Int32} {k : Nat} (hk : y.toInt = (k : Int)) (h1 : 1 ≤ k) (h2 : k ≤ 31) : 0 ≤ ((x.toUInt32 >>> (y.toUInt32 &&& Int32.toUInt32 31)).toInt32).toInt ∧ ((x.toUInt32 >>> (y.toUInt32 &&& Int32.toUInt32 31)).toInt32).toInt ≤ 2 ^ (32 - k) - 1 := by
  have ey : y.toBitVec.toNat = k := by
    have := t_nn (x := y) (by omega)
    omega
  have e : ((x.toUInt32 >>> (y.toUInt32 &&& Int32.toUInt32 31)).toInt32).toBitVec.toNat = x.toBitVec.toNat >>> k := by
    show (x.toUInt32 >>> (y.toUInt32 &&& Int32.toUInt32 31)).toNat = _
    rw [UInt32.toNat_shiftRight, UInt32.toNat_and]
    show x.toBitVec.toNat >>> ((y.toBitVec.toNat &&& 31) % 32) = _
    rw [ey]
    have : (k &&& 31) % 32 = k := by
      have e31 : k &&& 31 = k % 32 := Nat.and_two_pow_sub_one_eq_mod k 5
      rw [e31]; omega
    rw [this]
  have hlt : x.toBitVec.toNat >>> k < 2 ^ (32 - k) := by
    rw [Nat.shiftRight_eq_div_pow]
    apply Nat.div_lt_of_lt_mul
    rw [← Nat.pow_add]
    have : k + (32 - k) = 32 := by omega
    rw [this]
    exact x.toBitVec.isLt
  have hp : 2 ^ (32 - k) ≤ 2147483648 := Nat.pow_le_pow_right (n := 2) (by decide) (show 32 - k ≤ 31 by omega)
  have e3 := t_of (x := (x.toUInt32 >>> (y.toUInt32 &&& Int32.toUInt32 31)).toInt32) (by rw [e]; omega)
  rw [e3, e]
  refine ⟨by omega, ?_⟩
  have : ((2 ^ (32 - k) : Nat) : Int) = (2 : Int) ^ (32 - k) := by simp
  omega
def aFun (k : Nat) (x y : Int32) : Int32 := match k with
  | 0 => x + y
  | 1 => x - y
  | 2 => x * y
  | 3 => x &&& y
  | 4 => (x.toUInt32 >>> (y.toUInt32 &&& Int32.toUInt32 31)).toInt32
  | 5 => x ||| y
  | 6 => x ^^^ y
  | 7 => x <<< (y &&& 31)
  | _ => x >>> (y &&& 31)
theorem aBit_ok {t : vT} {x : Int32} (h : aBit t = true) (h1 : t.2.1 ≤ x.toInt) (h2 : x.toInt ≤ t.2.2) : x = 0 ∨ x = 1 := by
  unfold aBit at h
  rw [Bool.and_eq_true] at h
  have a1 := ile_ok h.1
  have a2 := ile_ok h.2
  have : x.toInt = 0 ∨ x.toInt = 1 := by omega
  rcases this with e | e
  · exact Or.inl (Int32.toInt_inj.mp (e.trans rfl))
  · exact Or.inr (Int32.toInt_inj.mp (e.trans (by decide)))
theorem aBin_ok {G : tG} {k : Nat} {t u : vT} {x y : Int32} (h1 : t.2.1 ≤ x.toInt) (h2 : x.toInt ≤ t.2.2) (h3 : u.2.1 ≤ y.toInt) (h4 : y.toInt ≤ u.2.2) : vok G (aBin k t u) (.int (aFun k x y)) := by
  match k with
  | 0 => exact aRng_ok (fun q => by have := inr_ok q; show _ ≤ (x + y).toInt ∧ (x + y).toInt ≤ _; rw [t_add (by omega) (by omega)]; omega)
  | 1 => exact aRng_ok (fun q => by have := inr_ok q; show _ ≤ (x - y).toInt ∧ (x - y).toInt ≤ _; rw [t_sub (by omega) (by omega)]; omega)
  | 2 =>
    show vok G (aMul t u) _
    unfold aMul
    split
    · rename_i q
      rw [Bool.and_eq_true] at q
      have a1 := ile_ok q.1
      have a2 := ile_ok q.2
      refine aRng_ok (fun q => ?_)
      have b := inr_ok q
      have c1 : 0 ≤ x.toInt * y.toInt := Int.mul_nonneg (by omega) (by omega)
      have c2 : x.toInt * y.toInt ≤ t.2.2 * u.2.2 := Int.mul_le_mul h2 h4 (by omega) (by omega)
      show _ ≤ (x * y).toInt ∧ (x * y).toInt ≤ _
      rw [t_mul (by omega) (by omega)]
      omega
    · exact top_ok G _
  | 3 =>
    show vok G (aAnd t u) _
    unfold aAnd
    split
    · rename_i q
      have a := ile_ok q
      have b := t_and (x := x) (y := y) (by omega)
      exact ⟨_, rfl, b.1, by show (x &&& y).toInt ≤ u.2.2; omega⟩
    · unfold aAnd2
      split
      · rename_i q
        have a := ile_ok q
        have b := t_and (x := y) (y := x) (by omega)
        refine ⟨_, rfl, ?_, ?_⟩
        · show 0 ≤ (x &&& y).toInt
          rw [t_and_c]; exact b.1
        · show (x &&& y).toInt ≤ t.2.2
          rw [t_and_c]; omega
      · exact top_ok G _
  | 4 =>
    show vok G (aUsh u) _
    unfold aUsh
    split
    · rename_i q
      rw [Bool.and_eq_true, Bool.and_eq_true] at q
      have a0 : u.2.1 = u.2.2 := by simpa using q.1
      have a1 := ile_ok q.2.1
      have a2 := ile_ok q.2.2
      have b := t_ushr (x := x) (y := y) (k := u.2.1.toNat) (by omega) (by omega) (by omega)
      exact ⟨_, rfl, b.1, b.2⟩
    · exact top_ok G _
  | 5 =>
    show vok G (aOr t u) _
    unfold aOr
    split
    · rename_i q
      rw [Bool.and_eq_true] at q
      refine ⟨_, rfl, ?_⟩
      show 0 ≤ (x ||| y).toInt ∧ (x ||| y).toInt ≤ 1
      rcases aBit_ok q.1 h1 h2 with rfl | rfl <;> rcases aBit_ok q.2 h3 h4 with rfl | rfl <;> decide
    · exact top_ok G _
  | k + 6 => exact top_ok G _
theorem aDif_ok {k : Nat} {t u : vT} {x y : Int32} {b : Bool} {d : Int} (h1 : t.2.1 ≤ x.toInt) (h2 : x.toInt ≤ t.2.2) (h3 : u.2.1 ≤ y.toInt) (h4 : y.toInt ≤ u.2.2) (h : aDif k t u = some (b, d)) : (aFun k x y).toInt = (match b with | true => x | false => y).toInt + d := by
  match k, h with
  | 0, h =>
    have h : aDifA t u = some (b, d) := h
    unfold aDifA at h
    split at h
    · rename_i q
      have := inr_ok q
      have e : (x + y).toInt = x.toInt + y.toInt := t_add (by omega) (by omega)
      show (x + y).toInt = _
      unfold aDifB at h
      split at h
      · rename_i q2
        have a0 : u.2.1 = u.2.2 := by simpa using q2
        cases h
        rw [e]
        show _ = x.toInt + u.2.1
        omega
      · split at h
        · rename_i q2
          have a0 : t.2.1 = t.2.2 := by simpa using q2
          cases h
          rw [e]
          show _ = y.toInt + t.2.1
          omega
        · cases h
    · cases h
  | 1, h =>
    have h : aDifS t u = some (b, d) := h
    unfold aDifS at h
    split at h
    · rename_i q
      rw [Bool.and_eq_true] at q
      have := inr_ok q.1
      have a0 : u.2.1 = u.2.2 := by simpa using q.2
      have e : (x - y).toInt = x.toInt - y.toInt := t_sub (by omega) (by omega)
      cases h
      show (x - y).toInt = x.toInt + -u.2.1
      rw [e]
      omega
    · cases h
  | k + 2, h => cases h
