/-! THE T LAYER: branches (own work) -/
def imax (a b : Int) : Int := match ile a b with
  | true => b
  | false => a
def imin (a b : Int) : Int := match ile a b with
  | true => a
  | false => b
theorem imax_ok {a b x : Int} (h1 : a ≤ x) (h2 : b ≤ x) : imax a b ≤ x := by unfold imax; split <;> assumption
theorem imin_ok {a b x : Int} (h1 : x ≤ a) (h2 : x ≤ b) : x ≤ imin a b := by unfold imin; split <;> assumption
theorem imax_ge {a b x : Int} (h : x ≤ a ∨ x ≤ b) : x ≤ imax a b := by
  unfold imax
  split
  · rename_i q; have := ile_ok q; omega
  · rename_i q
    have : ¬ a ≤ b := fun e => by simp [ile, e] at q
    omega
theorem imin_le {a b x : Int} (h : a ≤ x ∨ b ≤ x) : imin a b ≤ x := by
  unfold imin
  split
  · rename_i q; have := ile_ok q; omega
  · rename_i q
    have : ¬ a ≤ b := fun e => by simp [ile, e] at q
    omega
def cap (t : vT) (a b : Int) : Option vT := match ile (imax t.2.1 a) (imin t.2.2 b) with
  | true => some (t.1, imax t.2.1 a, imin t.2.2 b)
  | false => none
theorem cap_ok {G : tG} {t : vT} {a b : Int} {x : Int32} (ht : tint t = true) (h : vok G t (.int x)) (h1 : a ≤ x.toInt) (h2 : x.toInt ≤ b) : ∃ t', cap t a b = some t' ∧ vok G t' (.int x) ∧ tint t' = true := by
  obtain ⟨k, p, q⟩ := t
  have hpq : p ≤ x.toInt ∧ x.toInt ≤ q := by
    obtain ⟨y, e, e1, e2⟩ := vok_int ht h
    cases e
    exact ⟨e1, e2⟩
  have a1 : imax p a ≤ x.toInt := imax_ok hpq.1 h1
  have a2 : x.toInt ≤ imin q b := imin_ok hpq.2 h2
  have e : ile (imax p a) (imin q b) = true := decide_eq_true (by omega)
  refine ⟨(k, imax p a, imin q b), ?_, ?_, ?_⟩
  · unfold cap
    dsimp only
    rw [e]
  · match k, ht, h with
    | 0, _, _ => exact ⟨x, rfl, a1, a2⟩
    | 1, _, h => obtain ⟨y, e, -, -, e3⟩ := h; cases e; exact ⟨x, rfl, a1, a2, e3⟩
  · match k, ht with
    | 0, _ => rfl
    | 1, _ => rfl
/-- not that number -/
def tneq (t : vT) (c : Int) : Option vT := match t.2.1 == c with
  | true => cap t (c + 1) t.2.2
  | false => (match t.2.2 == c with
    | true => cap t t.2.1 (c - 1)
    | false => (match c == 0 with
      | true => some (1, t.2.1, t.2.2)
      | false => some t))
theorem tneq_ok {G : tG} {t : vT} {c : Int} {x : Int32} (ht : tint t = true) (h : vok G t (.int x)) (h1 : x.toInt ≠ c) : ∃ t', tneq t c = some t' ∧ vok G t' (.int x) ∧ tint t' = true := by
  obtain ⟨y, e, e1, e2⟩ := vok_int ht h
  cases e
  unfold tneq
  split
  · rename_i q
    have : t.2.1 = c := by simpa using q
    exact cap_ok ht h (by omega) e2
  · split
    · rename_i q
      have : t.2.2 = c := by simpa using q
      exact cap_ok ht h e1 (by omega)
    · split
      · rename_i q
        have : c = 0 := by simpa using q
        subst this
        exact ⟨_, rfl, ⟨x, rfl, e1, e2, i32_n h1⟩, rfl⟩
      · exact ⟨t, rfl, h, ht⟩
def cap2 (t u : vT) (a b c d : Int) : Option (vT × vT) := match cap t a b with
  | some t' => (match cap u c d with
    | some u' => some (t', u')
    | none => none)
  | none => none
def rNe (t u : vT) : Option (vT × vT) := match u.2.1 == u.2.2 with
  | true => (match tneq t u.2.1 with
    | some t' => some (t', u)
    | none => none)
  | false => (match t.2.1 == t.2.2 with
    | true => (match tneq u t.2.1 with
      | some u' => some (t, u')
      | none => none)
    | false => some (t, u))
/-- 0 equal, 1 not, 2 less, 3 at least, 4 more, 5 at most -/
def rRel (k : Nat) (t u : vT) : Option (vT × vT) := match k with
  | 0 => cap2 t u u.2.1 u.2.2 t.2.1 t.2.2
  | 1 => rNe t u
  | 2 => cap2 t u t.2.1 (u.2.2 - 1) (t.2.1 + 1) u.2.2
  | 3 => cap2 t u u.2.1 t.2.2 u.2.1 t.2.2
  | 4 => cap2 t u (u.2.1 + 1) t.2.2 u.2.1 (t.2.2 - 1)
  | _ => cap2 t u t.2.1 u.2.2 t.2.1 u.2.2
def pRel (k : Nat) (x y : Int32) : Prop := match k with
  | 0 => x = y
  | 1 => ¬ x = y
  | 2 => x < y
  | 3 => y ≤ x
  | 4 => y < x
  | _ => x ≤ y
theorem cap2_ok {G : tG} {t u : vT} {a b c d : Int} {x y : Int32} (ht : tint t = true) (hu : tint u = true) (hx : vok G t (.int x)) (hy : vok G u (.int y)) (h1 : a ≤ x.toInt) (h2 : x.toInt ≤ b) (h3 : c ≤ y.toInt) (h4 : y.toInt ≤ d) : ∃ p, cap2 t u a b c d = some p ∧ vok G p.1 (.int x) ∧ vok G p.2 (.int y) := by
  obtain ⟨t', e1, e2, -⟩ := cap_ok ht hx h1 h2
  obtain ⟨u', e3, e4, -⟩ := cap_ok hu hy h3 h4
  exact ⟨(t', u'), by unfold cap2; rw [e1]; dsimp only; rw [e3], e2, e4⟩
theorem rRel_ok {G : tG} {k : Nat} {t u : vT} {x y : Int32} (ht : tint t = true) (hu : tint u = true) (hx : vok G t (.int x)) (hy : vok G u (.int y)) (h : pRel k x y) : ∃ p, rRel k t u = some p ∧ vok G p.1 (.int x) ∧ vok G p.2 (.int y) := by
  obtain ⟨x', e, x1, x2⟩ := vok_int ht hx
  cases e
  obtain ⟨y', e, y1, y2⟩ := vok_int hu hy
  cases e
  match k, h with
  | 0, h => have h : x = y := h; subst h; exact cap2_ok ht hu hx hy y1 y2 x1 x2
  | 1, h =>
    have h : ¬ x = y := h
    have h2 : x.toInt ≠ y.toInt := fun q => h (Int32.toInt_inj.mp q)
    show ∃ p, rNe t u = some p ∧ _
    unfold rNe
    split
    · rename_i q
      have q : u.2.1 = u.2.2 := by simpa using q
      obtain ⟨t', e1, e2, -⟩ := tneq_ok (c := u.2.1) ht hx (by omega)
      rw [e1]
      exact ⟨_, rfl, e2, hy⟩
    · split
      · rename_i q
        have q : t.2.1 = t.2.2 := by simpa using q
        obtain ⟨u', e1, e2, -⟩ := tneq_ok (c := t.2.1) hu hy (by omega)
        rw [e1]
        exact ⟨_, rfl, hx, e2⟩
      · exact ⟨_, rfl, hx, hy⟩
  | 2, h => have h := jlt.mp (show x < y from h); exact cap2_ok ht hu hx hy x1 (by omega) (by omega) y2
  | 3, h => have h := jle.mp (show y ≤ x from h); exact cap2_ok ht hu hx hy (by omega) x2 y1 (by omega)
  | 4, h => have h := jlt.mp (show y < x from h); exact cap2_ok ht hu hx hy (by omega) x2 y1 (by omega)
  | k + 5, h => have h := jle.mp (show x ≤ y from h); exact cap2_ok ht hu hx hy x1 (by omega) (by omega) y2
def tgtOf (pc : Nat) (off : Int) : Option Nat := match ile 0 ((pc : Int) + off) with
  | true => some ((pc : Int) + off).toNat
  | false => none
theorem tgtOf_ok {pc tgt : Nat} {off : Int} (h : tgtOf pc off = some tgt) : (pc : Int) + off = (tgt : Int) := by
  unfold tgtOf at h
  split at h
  · rename_i q
    have := ile_ok q
    cases h
    omega
  · cases h
def tset (s : tS) (i : Nat) (t : vT) : tS := (s.1, s.2.1, s.2.2.1.set i t, s.2.2.2)
/-- a long that was compared with 0 and isn't it -/
def tlnz (s : tS) (x : Nat) : tS := match s.2.2.2.find? (fun q => q.1 == 2 && q.2.1 == x) with
  | some q => (match s.2.2.1[q.2.2.2.1]? with
    | some u => (match u.1 == 7 with
      | true => tset s q.2.2.1 (3, 0, 0)
      | false => s)
    | none => s)
  | none => s
theorem tlnz_len (s : tS) (x : Nat) : (tlnz s x).1 = s.1 ∧ (tlnz s x).2.1 = s.2.1 := by
  unfold tlnz
  split
  · split
    · split <;> exact ⟨rfl, rfl⟩
    · exact ⟨rfl, rfl⟩
  · exact ⟨rfl, rfl⟩
theorem lg_cmp_nz {x : Int64} (h : lg_cmp x 0 ≠ 0) : x ≠ 0 := fun e => by subst e; exact h (by decide)
theorem tlnz_ok {D : va_G} {G : tG} {w : jW} {ρ : Nat → Value} {s : tS} {x : Nat} {v : Int32} (h : tSat D G w ρ s) (hx : ρ x = .int v) (hv : ¬ v = 0) : tSat D G w ρ (tlnz s x) := by
  unfold tlnz
  split
  · rename_i q hq
    split
    · rename_i u hu
      split
      · rename_i h7
        obtain ⟨f1, f2⟩ := tfnd hq
        obtain ⟨kq, a, b, c, d⟩ := q
        have e : kq = 2 ∧ a = x := by simpa using f2
        obtain ⟨rfl, rfl⟩ := e
        obtain ⟨p, r, g1, g2, g3⟩ := h.2.2.2.2 _ f1
        obtain ⟨ku, ua, ub⟩ := u
        have e7 : ku = 7 := by simpa using h7
        subst e7
        have hz : ρ c = .long 0 := h.2.2.2.1 _ _ hu
        have g2 : ρ c = .long r := g2
        rw [hz] at g2
        cases g2
        have g3 : ρ a = .int (lg_cmp p 0) := g3
        rw [hx] at g3
        cases g3
        exact h.ref ⟨p, g1, lg_cmp_nz hv⟩
      · exact h
    · exact h
  · exact h
def tzk (k : Nat) (s : tS) (x : Nat) : tS := match k with
  | 1 => tlnz s x
  | _ => s
theorem tzk_ne {k : Nat} (h : k ≠ 1) (s : tS) (x : Nat) : tzk k s x = s := by
  unfold tzk
  split
  · exact absurd rfl h
  · rfl
def nsel (b : Bool) (x y : Nat) : Nat := match b with
  | true => x
  | false => y
def tside (k pc : Nat) (s : tS) (x : Nat) (t : vT) : List (Nat × tS) := match rRel k t (0, 0, 0) with
  | some p => [(pc, tzk k (tset s x p.1) x)]
  | none => []
def tside2 (k pc : Nat) (s : tS) (x y : Nat) (t u : vT) : List (Nat × tS) := match rRel k t u with
  | some p => [(pc, tset (tset s x p.1) y p.2)]
  | none => []
def rneg (k : Nat) : Nat := match k with
  | 0 => 1
  | 1 => 0
  | 2 => 3
  | 3 => 2
  | 4 => 5
  | _ => 4
def tbr1 (k pc : Nat) (off : Int) (s : tS) : Option (List (Nat × tS)) := match tgtOf pc off with
  | some tgt => (match s.2.1 with
    | x :: r => (match s.2.2.1[x]? with
      | some t => (match tint t with
        | true => some (tside k tgt (s.1, r, s.2.2.1, s.2.2.2) x t ++ tside (rneg k) (pc + 3) (s.1, r, s.2.2.1, s.2.2.2) x t)
        | false => none)
      | none => none)
    | _ => none)
  | none => none
def tbr2 (k pc : Nat) (off : Int) (s : tS) : Option (List (Nat × tS)) := match tgtOf pc off with
  | some tgt => (match s.2.1 with
    | y :: x :: r => (match s.2.2.1[x]?, s.2.2.1[y]? with
      | some t, some u => (match tint t && tint u with
        | true => some (tside2 k tgt (s.1, r, s.2.2.1, s.2.2.2) x y t u ++ tside2 (rneg k) (pc + 3) (s.1, r, s.2.2.1, s.2.2.2) x y t u)
        | false => none)
      | _, _ => none)
    | _ => none)
  | none => none
section TH
variable {g : jG} {P : tG → jW → Prop} {cc : ByteArray} {nL pc : Nat} {own : String} {D : va_G} {G : tG} {w : jW} {ρ : Nat → Value} {s : tS} {outs : List (Nat × tS)} {lk : tLK} {k0 n0 : Nat} {rm : Room}
theorem tside_ok {k pc' n : Nat} {x : Nat} {t : vT} {v : Int32} (hP : P G w) (h : tSat D G w ρ s) (ht : tint t = true) (hv : vok G t (ρ x)) (hx : ρ x = .int v) (hr : pRel k v 0) (hk : ∀ o ∈ tside k pc' s x t, tOut g P D n ρ o) : JJ g w pc' (cL ρ s) (cS ρ s) := by
  obtain ⟨p, e, e1, -⟩ := rRel_ok (G := G) (k := k) (t := t) (u := (0, 0, 0)) (x := v) (y := 0) ht rfl (by rw [← hx]; exact hv) ⟨0, rfl, by decide, by decide⟩ hr
  have h2 : tSat D G w ρ (tset s x p.1) := h.ref (by rw [hx]; exact e1)
  unfold tside at hk
  rw [e] at hk
  have h3 := hk _ List.mem_cons_self
  by_cases e9 : k = 1
  · subst e9
    have h4 := tlnz_ok h2 hx hr
    have h5 := h3 G w ρ hP (fun _ _ => rfl) h4
    have e1 : cL ρ (tlnz (tset s x p.1) x) = cL ρ s := by unfold cL; rw [(tlnz_len _ _).1]; rfl
    have e2 : cS ρ (tlnz (tset s x p.1) x) = cS ρ s := by unfold cS; rw [(tlnz_len _ _).2]; rfl
    have h5 : JJ g w pc' (cL ρ (tlnz (tset s x p.1) x)) (cS ρ (tlnz (tset s x p.1) x)) := h5
    rw [e1, e2] at h5
    exact h5
  · rw [tzk_ne e9] at h3
    exact h3 G w ρ hP (fun _ _ => rfl) h2
theorem tside2_ok {k pc' n : Nat} {x y : Nat} {t u : vT} {v z : Int32} (hP : P G w) (h : tSat D G w ρ s) (ht : tint t = true) (hu : tint u = true) (hv : vok G t (ρ x)) (hz : vok G u (ρ y)) (hx : ρ x = .int v) (hy : ρ y = .int z) (hr : pRel k v z) (hk : ∀ o ∈ tside2 k pc' s x y t u, tOut g P D n ρ o) : JJ g w pc' (cL ρ s) (cS ρ s) := by
  obtain ⟨p, e, e1, e2⟩ := rRel_ok (G := G) (k := k) ht hu (by rw [← hx]; exact hv) (by rw [← hy]; exact hz) hr
  have h2 : tSat D G w ρ (tset (tset s x p.1) y p.2) := (h.ref (n := x) (t := p.1) (by rw [hx]; exact e1)).ref (by rw [hy]; exact e2)
  unfold tside2 at hk
  rw [e] at hk
  exact hk _ List.mem_cons_self G w ρ hP (fun _ _ => rfl) h2
theorem tbr1_ok {k : Nat} {off : Int} (hP : P G w) (h : tSat D G w ρ s) (ho : tbr1 k pc off s = some outs) (hk : ∀ o ∈ outs, tOut g P D s.2.2.1.length ρ o) (row : ∀ (tgt : Nat) (v : Int32) (st : List Value), (pc : Int) + off = (tgt : Int) → (pRel k v 0 → JJ g w tgt (cL ρ s) st) → (pRel (rneg k) v 0 → JJ g w (pc + 3) (cL ρ s) st) → JJ g w pc (cL ρ s) (.int v :: st)) : JJ g w pc (cL ρ s) (cS ρ s) := by
  unfold tbr1 at ho
  split at ho
  · rename_i tgt htg
    split at ho
    · rename_i x r hs
      split at ho
      · rename_i t ht
        split at ho
        · rename_i hp
          cases ho
          obtain ⟨v, hx, -⟩ := vok_int hp (tgetI h ht)
          have h2 := h.re s.1 r h.1 (fun j hj => h.2.1 j (by rw [hs]; exact List.mem_cons_of_mem _ hj))
          rw [tstk hs, hx]
          exact row tgt v _ (tgtOf_ok htg) (fun q => tside_ok hP h2 hp (tgetI h ht) hx q (fun o ho => hk o (List.mem_append_left _ ho))) (fun q => tside_ok hP h2 hp (tgetI h ht) hx q (fun o ho => hk o (List.mem_append_right _ ho)))
        · cases ho
      · cases ho
    · cases ho
  · cases ho
theorem tbr2_ok {k : Nat} {off : Int} (hP : P G w) (h : tSat D G w ρ s) (ho : tbr2 k pc off s = some outs) (hk : ∀ o ∈ outs, tOut g P D s.2.2.1.length ρ o) (row : ∀ (tgt : Nat) (v z : Int32) (st : List Value), (pc : Int) + off = (tgt : Int) → (pRel k v z → JJ g w tgt (cL ρ s) st) → (pRel (rneg k) v z → JJ g w (pc + 3) (cL ρ s) st) → JJ g w pc (cL ρ s) (.int z :: .int v :: st)) : JJ g w pc (cL ρ s) (cS ρ s) := by
  unfold tbr2 at ho
  split at ho
  · rename_i tgt htg
    split at ho
    · rename_i y x r hs
      split at ho
      · rename_i t u ht hu
        split at ho
        · rename_i hp
          rw [Bool.and_eq_true] at hp
          cases ho
          obtain ⟨v, hx, -⟩ := vok_int hp.1 (tgetI h ht)
          obtain ⟨z, hy, -⟩ := vok_int hp.2 (tgetI h hu)
          have h2 := h.re s.1 r h.1 (fun j hj => h.2.1 j (by rw [hs]; exact List.mem_cons_of_mem _ (List.mem_cons_of_mem _ hj)))
          rw [tstk2 hs, hx, hy]
          exact row tgt v z _ (tgtOf_ok htg) (fun q => tside2_ok hP h2 hp.1 hp.2 (tgetI h ht) (tgetI h hu) hx hy q (fun o ho => hk o (List.mem_append_left _ ho))) (fun q => tside2_ok hP h2 hp.1 hp.2 (tgetI h ht) (tgetI h hu) hx hy q (fun o ho => hk o (List.mem_append_right _ ho)))
        · cases ho
      · cases ho
    · cases ho
  · cases ho
theorem nlt_le {x y : Int32} (h : ¬ x < y) : y ≤ x := by rw [jlt] at h; rw [jle]; omega
theorem nle_lt {x y : Int32} (h : ¬ x ≤ y) : y < x := by rw [jle] at h; rw [jlt]; omega
/-- references -/
def tnul (nul : Bool) (pc : Nat) (off : Int) (s : tS) : Option (List (Nat × tS)) := match tgtOf pc off with
  | some tgt => (match s.2.1 with
    | x :: r => (match s.2.2.1[x]? with
      | some t => (match t.1 with
        | 4 => some [((nsel nul (pc + 3) tgt), (s.1, r, s.2.2.1, s.2.2.2))]
        | 5 => some [((nsel nul (pc + 3) tgt), tset (s.1, r, s.2.2.1, s.2.2.2) x (4, t.2.1, t.2.2)), ((nsel nul tgt (pc + 3)), tset (s.1, r, s.2.2.1, s.2.2.2) x (6, 0, 0))]
        | 6 => some [((nsel nul tgt (pc + 3)), (s.1, r, s.2.2.1, s.2.2.2))]
        | _ => none)
      | none => none)
    | _ => none)
  | none => none
theorem tnul_ok {nul : Bool} {off : Int} (hP : P G w) (h : tSat D G w ρ s) (ho : tnul nul pc off s = some outs) (hk : ∀ o ∈ outs, tOut g P D s.2.2.1.length ρ o) (row : ∀ (tgt : Nat) (st : List Value), (pc : Int) + off = (tgt : Int) → (∀ a, JJ g w (nsel nul (pc + 3) tgt) (cL ρ s) st → JJ g w pc (cL ρ s) (.ref a :: st)) ∧ (JJ g w (nsel nul tgt (pc + 3)) (cL ρ s) st → JJ g w pc (cL ρ s) (.null :: st))) : JJ g w pc (cL ρ s) (cS ρ s) := by
  unfold tnul at ho
  split at ho
  · rename_i tgt htg
    split at ho
    · rename_i x r hs
      split at ho
      · rename_i t ht
        have hv := tgetI h ht
        have h2 := h.re s.1 r h.1 (fun j hj => h.2.1 j (by rw [hs]; exact List.mem_cons_of_mem _ hj))
        obtain ⟨kt, ta, tb⟩ := t
        have hrow := fun st => row tgt st (tgtOf_ok htg)
        rw [tstk hs]
        match kt, ho, hv with
        | 4, ho, hv =>
          cases ho
          obtain ⟨a, ha, hg⟩ := hv
          rw [ha]
          exact (hrow _).1 a (hk _ List.mem_cons_self G w ρ hP (fun _ _ => rfl) h2)
        | 5, ho, hv =>
          cases ho
          rcases hv with ha | ⟨a, ha, hg⟩
          · rw [ha]
            exact (hrow _).2 (hk _ (List.mem_cons_of_mem _ List.mem_cons_self) G w ρ hP (fun _ _ => rfl) (h2.ref (n := x) (t := (6, 0, 0)) ha))
          · rw [ha]
            exact (hrow _).1 a (hk _ List.mem_cons_self G w ρ hP (fun _ _ => rfl) (h2.ref (n := x) (t := (4, ta, tb)) ⟨a, ha, hg⟩))
        | 6, ho, hv =>
          cases ho
          have hv : ρ x = .null := hv
          rw [hv]
          exact (hrow _).2 (hk _ List.mem_cons_self G w ρ hP (fun _ _ => rfl) h2)
        | 0, ho, hv => cases ho
        | 1, ho, hv => cases ho
        | 2, ho, hv => cases ho
        | 3, ho, hv => cases ho
        | k + 7, ho, hv => cases ho
      · cases ho
    · cases ho
  · cases ho
/-- switches -/
def ttabs (pc : Nat) (s : tS) (x : Nat) (t : vT) : List Int → Int → Option (List (Nat × tS))
  | [], _ => some []
  | off :: l, c => match ttabs pc s x t l (c + 1) with
    | some r => (match cap t c c with
      | none => some r
      | some t' => (match tgtOf pc off with
        | some tgt => some ((tgt, tset s x t') :: r)
        | none => none))
    | none => none
theorem ttabs_ok {x : Nat} {t : vT} {v : Int32} (ht : tint t = true) (hv : vok G t (.int v)) : ∀ (l : List Int) (c : Int) (r : List (Nat × tS)), ttabs pc s x t l c = some r → ∀ (j : Nat) (off : Int), l[j]? = some off → v.toInt = c + j → ∃ (tgt : Nat) (t' : vT), (pc : Int) + off = (tgt : Int) ∧ (tgt, tset s x t') ∈ r ∧ vok G t' (.int v) := by
  intro l
  induction l with
  | nil => intro c r _ j off hj; cases hj
  | cons off0 l ih =>
    intro c r hr j off hj hc
    unfold ttabs at hr
    split at hr
    · rename_i r0 hr0
      match j, hj with
      | 0, hj =>
        cases hj
        obtain ⟨t', e1, e2, -⟩ := cap_ok (a := c) (b := c) ht hv (by omega) (by omega)
        rw [e1] at hr
        dsimp only at hr
        split at hr
        · rename_i tgt htg
          cases hr
          exact ⟨tgt, t', tgtOf_ok htg, List.mem_cons_self, e2⟩
        · cases hr
      | j + 1, hj =>
        obtain ⟨tgt, t', e1, e2, e3⟩ := ih (c + 1) r0 hr0 j off hj (by omega)
        refine ⟨tgt, t', e1, ?_, e3⟩
        split at hr
        · cases hr; exact e2
        · split at hr
          · cases hr; exact List.mem_cons_of_mem _ e2
          · cases hr
    · cases hr
def ttab (pc : Nat) (dflt lo hi : Int) (offs : Array Int) (s : tS) : Option (List (Nat × tS)) := match s.2.1 with
  | x :: r => (match s.2.2.1[x]? with
    | some t => (match tint t && ile (hi - lo + 1) (offs.toList.length : Int) with
      | true => (match tgtOf pc dflt with
        | some tgt => (match ttabs pc (s.1, r, s.2.2.1, s.2.2.2) x t offs.toList lo with
          | some l => some ((tgt, (s.1, r, s.2.2.1, s.2.2.2)) :: l)
          | none => none)
        | none => none)
      | false => none)
    | none => none)
  | _ => none
theorem ttab_ok (C : jX g cc nL own D) {dflt lo hi : Int} {offs : Array Int} {len : Nat} (hd : decode cc pc = .ok (.tableswitch dflt lo hi offs, len)) (hP : P G w) (h : tSat D G w ρ s) (ho : ttab pc dflt lo hi offs s = some outs) (hk : ∀ o ∈ outs, tOut g P D s.2.2.1.length ρ o) : JJ g w pc (cL ρ s) (cS ρ s) := by
  unfold ttab at ho
  split at ho
  · rename_i x r hs
    split at ho
    · rename_i t ht
      split at ho
      · rename_i hb
        rw [Bool.and_eq_true] at hb
        split at ho
        · rename_i tgt htg
          split at ho
          · rename_i l hl
            cases ho
            obtain ⟨v, hx, -⟩ := vok_int hb.1 (tgetI h ht)
            have h2 := h.re s.1 r h.1 (fun j hj => h.2.1 j (by rw [hs]; exact List.mem_cons_of_mem _ hj))
            rw [tstk hs, hx]
            by_cases hin : v.toInt < lo ∨ hi < v.toInt
            · exact j_tabOut C hd hin (tgtOf_ok htg) (hk _ List.mem_cons_self G w ρ hP (fun _ _ => rfl) h2)
            · have hle := ile_ok hb.2
              have hj : (v.toInt - lo).toNat < offs.toList.length := by omega
              obtain ⟨tgt2, t', e1, e2, e3⟩ := ttabs_ok (G := G) hb.1 (by rw [← hx]; exact tgetI h ht) _ _ _ hl (v.toInt - lo).toNat _ (List.getElem?_eq_getElem hj) (by omega)
              have ho2 : offs[(v.toInt - lo).toNat]? = some offs.toList[(v.toInt - lo).toNat] := by rw [← Array.getElem?_toList]; exact List.getElem?_eq_getElem hj
              exact j_tabIn C hd (fun q => hin (Or.inl q)) (fun q => hin (Or.inr q)) ho2 e1 (hk _ (List.mem_cons_of_mem _ e2) G w ρ hP (fun _ _ => rfl) (h2.ref (n := x) (t := t') (by rw [hx]; exact e3)))
          · cases ho
        · cases ho
      · cases ho
    · cases ho
  · cases ho
def tlks (pc : Nat) (s : tS) : List Int → Option (List (Nat × tS))
  | [] => some []
  | off :: l => match tlks pc s l with
    | some r => (match tgtOf pc off with
      | some tgt => some ((tgt, s) :: r)
      | none => none)
    | none => none
theorem tlks_ok : ∀ (l : List Int) (r : List (Nat × tS)), tlks pc s l = some r → ∀ off ∈ l, ∃ tgt : Nat, (pc : Int) + off = (tgt : Int) ∧ (tgt, s) ∈ r := by
  intro l
  induction l with
  | nil => intro r _ off h; cases h
  | cons off0 l ih =>
    intro r hr off hoff
    unfold tlks at hr
    split at hr
    · rename_i r0 hr0
      split at hr
      · rename_i tgt htg
        cases hr
        rcases List.mem_cons.mp hoff with rfl | h
        · exact ⟨tgt, tgtOf_ok htg, List.mem_cons_self⟩
        · obtain ⟨t2, e1, e2⟩ := ih r0 hr0 off h
          exact ⟨t2, e1, List.mem_cons_of_mem _ e2⟩
      · cases hr
    · cases hr
def tluk (pc : Nat) (dflt : Int) (ps : Array (Int × Int)) (s : tS) : Option (List (Nat × tS)) := match s.2.1 with
  | x :: r => (match s.2.2.1[x]? with
    | some t => (match tint t && (ps.toList.zip (ps.toList.drop 1)).all (fun (a, next) => a.1 < next.1) with
      | true => tlks pc (s.1, r, s.2.2.1, s.2.2.2) (dflt :: ps.toList.map (fun p => p.2))
      | false => none)
    | none => none)
  | _ => none
theorem look_in (ps : List (Int × Int)) (d k : Int) : Op.lookupswitch.offset ps d k ∈ d :: ps.map (fun p => p.2) := by
  induction ps with
  | nil => exact List.mem_cons_self
  | cons p ps ih =>
    obtain ⟨a, o⟩ := p
    rw [Op.lookupswitch.offset_cons]
    split
    · exact List.mem_cons_of_mem _ List.mem_cons_self
    · rcases List.mem_cons.mp ih with h | h
      · rw [h]; exact List.mem_cons_self
      · exact List.mem_cons_of_mem _ (List.mem_cons_of_mem _ h)
theorem tluk_ok (C : jX g cc nL own D) {dflt : Int} {ps : Array (Int × Int)} {len : Nat} (hd : decode cc pc = .ok (.lookupswitch dflt ps, len)) (hP : P G w) (h : tSat D G w ρ s) (ho : tluk pc dflt ps s = some outs) (hk : ∀ o ∈ outs, tOut g P D s.2.2.1.length ρ o) : JJ g w pc (cL ρ s) (cS ρ s) := by
  unfold tluk at ho
  split at ho
  · rename_i x r hs
    split at ho
    · rename_i t ht
      split at ho
      · rename_i hb
        rw [Bool.and_eq_true] at hb
        obtain ⟨v, hx, -⟩ := vok_int hb.1 (tgetI h ht)
        have h2 := h.re s.1 r h.1 (fun j hj => h.2.1 j (by rw [hs]; exact List.mem_cons_of_mem _ hj))
        obtain ⟨tgt, e1, e2⟩ := tlks_ok _ _ ho _ (look_in ps.toList dflt v.toInt)
        rw [tstk hs, hx]
        have kk := hk _ e2 G w ρ hP (fun _ _ => rfl) h2
        obtain ⟨⟨c1, c2, -⟩, rfl, -⟩ := C
        exact fun H locs ls h1 h2 h3 h4 h5 => lv_lookup c1 c2 hd hb.2 rfl e1 (kk H locs ls h1 h2 h3 h4 h5)
      · cases ho
    · cases ho
  · cases ho
/-- Math.max, Math.min -/
def tmm (b : Bool) (t u : vT) : vT := match b with
  | true => (0, imax t.2.1 u.2.1, imax t.2.2 u.2.2)
  | false => (0, imin t.2.1 u.2.1, imin t.2.2 u.2.2)
def tsum (s : tS) (l : List Nat) : Nat := (l.map (fun i => match s.2.2.1[i]? with | some t => tcat t | none => 2)).sum
theorem tsum_ok (h : tSat D G w ρ s) : ∀ (l : List Nat), (∀ i ∈ l, i < s.2.2.1.length) → ((l.map ρ).map fun v => v.category).sum = tsum s l := by
  intro l
  induction l with
  | nil => intro _; rfl
  | cons i l ih =>
    intro hl
    obtain ⟨t, ht⟩ := h.len (hl i List.mem_cons_self)
    have e := ih (fun j hj => hl j (List.mem_cons_of_mem _ hj))
    unfold tsum at e ⊢
    simp only [List.map_cons, List.sum_cons, ht]
    rw [e, vok_cat (h.2.2.2.1 _ _ ht)]
def tmmx (lk : tLK) (fr lo : Nat) (idx pc : Nat) (s : tS) : Option (Nat × tS) := match lk.2.2.2.2.find? (fun q => q.1 == idx) with
  | some q => (match s.2.1 with
    | y :: x :: r => (match s.2.2.1[x]?, s.2.2.1[y]? with
      | some t, some u => (match (tint t && tint u) && (Nat.ble 1 fr && Nat.ble (tsum s r + 13) lo) with
        | true => some (pc + 3, tpush s r (tmm q.2 t u))
        | false => none)
      | _, _ => none)
    | _ => none)
  | none => none
theorem tmmx_ok (C : jX g cc nL own D) (Rm : jRm g k0 n0 rm) (hlk : lkOK own lk) {idx : Nat} {o : Nat × tS} (hd : decode cc pc = .ok (.invokestatic idx, 3)) (hP : P G w) (hc : w.2.1 ≤ k0 + rm.cells) (hs9 : w.2.2 ≤ n0 + rm.slots) (h : tSat D G w ρ s) (ho : tmmx lk rm.frames rm.locals idx pc s = some o) (hk : tOut g P D s.2.2.1.length ρ o) : JJ g w pc (cL ρ s) (cS ρ s) := by
  unfold tmmx at ho
  split at ho
  · rename_i q hq
    obtain ⟨hq1, hq2⟩ := tfnd hq
    have hq3 : q.1 = idx := by simpa using hq2
    split at ho
    · rename_i y x r hs
      split at ho
      · rename_i t u ht hu
        split at ho
        · rename_i hb
          rw [Bool.and_eq_true, Bool.and_eq_true, Bool.and_eq_true] at hb
          obtain ⟨⟨b1, b2⟩, b3, b4⟩ := hb
          cases ho
          obtain ⟨v, hx, x1, x2⟩ := vok_int b1 (tgetI h ht)
          obtain ⟨z, hy, y1, y2⟩ := vok_int b2 (tgetI h hu)
          have hr : ∀ j ∈ r, j < s.2.2.1.length := fun j hj => h.2.1 j (by rw [hs]; exact List.mem_cons_of_mem _ (List.mem_cons_of_mem _ hj))
          have hl : ((r.map ρ).map fun v => v.category).sum + 13 ≤ rm.locals := by rw [tsum_ok h r hr]; exact Nat.le_of_ble_eq_true b4
          have hm := hlk.2.2.2.2 q hq1
          rw [tstk2 hs, hx, hy]
          obtain ⟨qi, qb⟩ := q
          cases qb
          · refine j_mmin C Rm hm (hq3 ▸ hd) (Nat.le_of_ble_eq_true b3) hl hc hs9 (tpush_out (t := tmm false t u) hP h hr ?_ hk)
            by_cases q : z < v
            · rw [if_pos q]
              rw [jlt] at q
              exact ⟨_, rfl, imin_le (Or.inr y1), imin_ok (by omega) y2⟩
            · rw [if_neg q]
              rw [jlt] at q
              exact ⟨_, rfl, imin_le (Or.inl x1), imin_ok x2 (by omega)⟩
          · refine j_mmax C Rm hm (hq3 ▸ hd) (Nat.le_of_ble_eq_true b3) hl hc hs9 (tpush_out (t := tmm true t u) hP h hr ?_ hk)
            by_cases q : v < z
            · rw [if_pos q]
              rw [jlt] at q
              exact ⟨_, rfl, imax_ok (by omega) y1, imax_ge (Or.inr y2)⟩
            · rw [if_neg q]
              rw [jlt] at q
              exact ⟨_, rfl, imax_ok x1 (by omega), imax_ge (Or.inl x2)⟩
        · cases ho
      · cases ho
    · cases ho
  · cases ho
end TH
