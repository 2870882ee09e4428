/-! THE T LAYER: fields and arrays (own work) -/
/-- the goal from what an instruction leaves -/
def tOut (g : jG) (P : tG → jW → Prop) (D : va_G) (n : Nat) (ρ : Nat → Value) (o : Nat × tS) : Prop := ∀ G w ρ', P G w → (∀ i, i < n → ρ' i = ρ i) → tSat D G w ρ' o.2 → JJ g w o.1 (cL ρ' o.2) (cS ρ' o.2)
theorem tRes.out {g : jG} {P : tG → jW → Prop} {D : va_G} {G : tG} {w : jW} {ρ : Nat → Value} {n : Nat} {o : Nat × tS} (hk : tOut g P D n ρ o) (hP : P G w) {pc : Nat} {L : List (Nat × Value)} {st : List Value} {R : Option jR} (h : tRes D G w ρ n o R) (hR : ∀ pc' L' st', R = some (pc', L', st') → JJ g w pc' L' st' → JJ g w pc L st) : JJ g w pc L st := by
  obtain ⟨ρ', h1, h2, h3⟩ := h
  exact hR _ _ _ h3 (hk G w ρ' hP h1 h2)
/-- links of a class: fields read, fields written, constants -/
abbrev tLK : Type := List (Nat × Nat × Nat × Bool) × List (Nat × Nat × Nat × FieldType × Bool) × List (Nat × Int32) × List (Nat × Int64) × List (Nat × Bool)
def lkG (own : String) (q : Nat × Nat × Nat × Bool) : Prop := match q.2.2.2 with
  | false => jF own q.1 q.2.1 q.2.2.1
  | true => jFn own q.1 q.2.1 q.2.2.1
def lkP (own : String) (q : Nat × Nat × Nat × FieldType × Bool) : Prop := match q.2.2.2.2 with
  | false => jFp own q.1 q.2.1 q.2.2.1 q.2.2.2.1
  | true => jFpn own q.1 q.2.1 q.2.2.1 q.2.2.2.1
def lkOK (own : String) (lk : tLK) : Prop := (∀ q ∈ lk.1, lkG own q) ∧ (∀ q ∈ lk.2.1, lkP own q) ∧ (∀ q ∈ lk.2.2.1, Cond.constant own q.1 q.2 ∈ jwd) ∧ (∀ q ∈ lk.2.2.2.1, Cond.constantLong own q.1 q.2 ∈ jwd) ∧ ∀ q ∈ lk.2.2.2.2, (match q.2 with | true => jcM own q.1 Lib.Math.max.name Lib.Math.max.code | false => jcM own q.1 Lib.Math.min.name Lib.Math.min.code)
theorem tfnd {α : Type} {p : α → Bool} {l : List α} {x : α} (h : l.find? p = some x) : x ∈ l ∧ p x = true := ⟨List.mem_of_find?_eq_some h, List.find?_some h⟩
/-- an object's type -/
def tobj (s : tS) (r : Nat) : Option (Nat × Nat × List vT) := match s.2.2.1[r]? with
  | some t => (match t.1 == 4 with
    | true => (match tyO t.2.1.toNat with
      | some o => some (t.2.1.toNat, o.1, o.2)
      | none => none)
    | false => none)
  | none => none
theorem tobj_ok {D : va_G} {G : tG} {w : jW} {ρ : Nat → Value} {s : tS} (hw : WOK D G w) (h : tSat D G w ρ s) {r τ c : Nat} {fs : List vT} (ho : tobj s r = some (τ, c, fs)) : tyO τ = some (c, fs) ∧ ∃ a V, ρ r = .ref a ∧ G a = some τ ∧ w.1 a = some (.inr (c, V)) ∧ ∀ k t, fs[k]? = some t → vok G t (V k) := by
  unfold tobj at ho
  split at ho
  · rename_i t ht
    split at ho
    · rename_i h4
      split at ho
      · rename_i o hty
        cases ho
        have hv := h.2.2.2.1 _ _ ht
        obtain ⟨kt, ta, tb⟩ := t
        have e : kt = 4 := by simpa using h4
        subst e
        obtain ⟨a, ha, hg⟩ := hv
        obtain ⟨V, h1, h2⟩ := (tcell_O hty).mp (hw a _ hg)
        exact ⟨hty, a, V, ha, hg, h1, h2⟩
      · cases ho
    · cases ho
  · cases ho
def tfld (r k : Nat) (fs : List tF) : Option tF := fs.find? (fun q => q.1 == 0 && (q.2.1 == r && q.2.2.1 == k))
def tget (lk : tLK) (idx pc : Nat) (s : tS) : Option (Nat × tS) := match lk.1.find? (fun q => q.1 == idx) with
  | some q => (match s.2.1 with
    | r :: st => (match tobj s r with
      | some o => (match o.2.1 == q.2.1 with
        | true => (match o.2.2[q.2.2.1]? with
          | some t => (match tfld r q.2.2.1 s.2.2.2 with
            | some f => some (pc + 3, (s.1, f.2.2.2.1 :: st, s.2.2.1, s.2.2.2))
            | none => some (pc + 3, (s.1, s.2.2.1.length :: st, s.2.2.1 ++ [t], (0, r, q.2.2.1, s.2.2.1.length, 0) :: s.2.2.2)))
          | none => none)
        | false => none)
      | none => none)
    | _ => none)
  | none => none
section TH
variable {g : jG} {P : tG → jW → Prop} {cc : ByteArray} {nL pc : Nat} {own : String} {D : va_G} {G : tG} {w : jW} {ρ : Nat → Value} {s : tS} {o : Nat × tS} {lk : tLK}
theorem tget_ok (C : jX g cc nL own D) (hlk : lkOK own lk) {idx : Nat} (hd : decode cc pc = .ok (.getfield idx, 3)) (hP : P G w) (hw : WOK D G w) (h : tSat D G w ρ s) (ho : tget lk idx pc s = some o) (hk : tOut g P D s.2.2.1.length ρ o) : JJ g w pc (cL ρ s) (cS ρ s) := by
  unfold tget at ho
  split at ho
  · rename_i q hq
    obtain ⟨hq1, hq2⟩ := tfnd hq
    have hq3 : q.1 = idx := by simpa using hq2
    split at ho
    · rename_i r st hs
      split at ho
      · rename_i o9 hobj
        obtain ⟨τ, c, fs⟩ := o9
        split at ho
        · rename_i hc
          have hc : c = q.2.1 := by simpa using hc
          split at ho
          · rename_i t ht
            obtain ⟨hty, a, V, ha, hg, hV, hf⟩ := tobj_ok hw h hobj
            have hi : ∀ j ∈ r :: st, j < s.2.2.1.length := fun j hj => h.2.1 j (by rw [hs]; exact hj)
            have hi2 : ∀ j ∈ st, j < s.2.2.1.length := fun j hj => hi j (List.mem_cons_of_mem _ hj)
            have key : ∀ v, V q.2.2.1 = v → JJ g w (pc + 3) (cL ρ s) (v :: st.map ρ) → JJ g w pc (cL ρ s) (cS ρ s) := by
              intro v hv kk
              rw [tstk hs, ha]
              have hl := hlk.1 q hq1
              unfold lkG at hl
              rw [hc] at hV
              split at hl
              · exact j_get C (hq3 ▸ hd) hl hV hv kk
              · exact j_getN C (hq3 ▸ hd) hl hV hv kk
            split at ho
            · rename_i f hfl
              cases ho
              obtain ⟨f1, f2⟩ := tfnd hfl
              obtain ⟨kf, fr, fk, fv, fd⟩ := f
              have e : kf = 0 ∧ fr = r ∧ fk = q.2.2.1 := by simpa using f2
              obtain ⟨rfl, rfl, rfl⟩ := e
              obtain ⟨a2, ci2, V2, g1, g2, g3⟩ := h.2.2.2.2 _ f1
              have ea : a2 = a := by have := g1.symm.trans ha; cases this; rfl
              subst ea
              rw [hV] at g2
              cases g2
              have hlv : fv < s.2.2.1.length := h.2.2.1 _ f1 fv (by simp [fids])
              refine key _ g3 ?_
              exact hk G w ρ hP (fun _ _ => rfl) (h.re _ _ h.1 (fun j hj => by
                rcases List.mem_cons.mp hj with rfl | hj
                · exact hlv
                · exact hi2 j hj))
            · cases ho
              have hvt := hf _ _ ht
              obtain ⟨h1, h2, h3⟩ := tpush_ok h hi2 hvt
              refine key _ rfl ?_
              have h4 := h1.fact (q := (0, r, q.2.2.1, s.2.2.1.length, 0)) (fun j hj => by
                have : j = r ∨ j = s.2.2.1.length := by simpa [fids] using hj
                have := hi r List.mem_cons_self
                show j < (s.2.2.1 ++ [t]).length
                simp; omega) ⟨a, c, V, by rw [rset_ne (hi r List.mem_cons_self)]; exact ha, hV, (rset_at _ _ _).symm⟩
              have := hk G w _ hP (fun j hj => rset_ne hj) h4
              rw [← h2, ← h3]
              exact this
          · cases ho
        · cases ho
      · cases ho
    · cases ho
  · cases ho
/-- what a field of such a type may hold -/
def tfit (ty : FieldType) (t : vT) : Bool := match ty with
  | .int => tint t
  | .boolean => tint t && (ile 0 t.2.1 && ile t.2.2 1)
  | .long => tlng t
  | .object _ => trf t
  | .array _ => trf t
  | _ => false
theorem tfit_ok {ty : FieldType} {t : vT} {v : Value} (h : tfit ty t = true) (hv : vok G t v) : narrow ty v = v ∧ fits ty v = true := by
  cases ty with
  | int => obtain ⟨x, rfl, -⟩ := vok_int h hv; exact ⟨rfl, rfl⟩
  | boolean =>
    have h : (tint t && (ile 0 t.2.1 && ile t.2.2 1)) = true := h
    rw [Bool.and_eq_true, Bool.and_eq_true] at h
    obtain ⟨x, rfl, h1, h2⟩ := vok_int h.1 hv
    have a1 := ile_ok h.2.1
    have a2 := ile_ok h.2.2
    have hx : x = 0 ∨ x = 1 := by
      have : x.toInt = 0 ∨ x.toInt = 1 := by omega
      rcases this with e | e
      · exact Or.inl (Int32.toInt_inj.mp (e.trans rfl))
      · exact Or.inr (Int32.toInt_inj.mp (e.trans (by decide)))
    rcases hx with rfl | rfl
    · exact ⟨by decide, by decide⟩
    · exact ⟨by decide, by decide⟩
  | long => obtain ⟨x, rfl⟩ := vok_lng h hv; exact ⟨rfl, rfl⟩
  | object C => rcases vok_rf h hv with rfl | ⟨x, rfl⟩ <;> exact ⟨rfl, rfl⟩
  | array t9 => rcases vok_rf h hv with rfl | ⟨x, rfl⟩ <;> exact ⟨rfl, rfl⟩
  | _ => cases h
/-- not an object of that class -/
def tnoc (s : tS) (c r : Nat) : Bool := match tobj s r with
  | some o => !(o.2.1 == c)
  | none => false
def tkeep1 (s : tS) (c k : Nat) (q : tF) : Bool := match q.1 with
  | 0 => (!(q.2.2.1 == k)) || tnoc s c q.2.1
  | _ => true
/-- fields kept -/
def kel (K : List (Nat × Nat)) (c k : Nat) : Bool := K.any (fun q => q.1 == c && q.2 == k)
def tput (lk : tLK) (K : List (Nat × Nat)) (idx pc : Nat) (s : tS) : Option (Nat × tS) := match lk.2.1.find? (fun q => q.1 == idx) with
  | some q => (match s.2.1 with
    | v :: r :: st => (match tobj s r with
      | some o => (match s.2.2.1[v]? with
        | some u => (match o.2.2[q.2.2.1]? with
          | some t => (match (o.2.1 == q.2.1 && !(noW o.2.1 q.2.2.1 || kel K o.2.1 q.2.2.1)) && (vsub u t && tfit q.2.2.2.1 u) with
            | true => some (pc + 3, (s.1, st, s.2.2.1, (0, r, q.2.2.1, v, 0) :: s.2.2.2.filter (tkeep1 s o.2.1 q.2.2.1)))
            | false => none)
          | none => none)
        | none => none)
      | none => none)
    | _ => none)
  | none => none
theorem tput_ok {K : List (Nat × Nat)} (C : jX g cc nL own D) (hlk : lkOK own lk) {idx : Nat} (hd : decode cc pc = .ok (.putfield idx, 3)) (hP : P G w) (hw : WOK D G w) (hPp : ∀ {a τ c k : Nat} {fs : List vT} {V : Nat → Value} {v : Value} {t : vT}, G a = some τ → tyO τ = some (c, fs) → w.1 a = some (.inr (c, V)) → fs[k]? = some t → vok G t v → noW c k = false → kel K c k = false → P G (va_up w.1 a (some (.inr (c, updV V k v))), w.2)) (h : tSat D G w ρ s) (ho : tput lk K idx pc s = some o) (hk : tOut g P D s.2.2.1.length ρ o) : JJ g w pc (cL ρ s) (cS ρ s) := by
  unfold tput at ho
  split at ho
  · rename_i q hq
    obtain ⟨hq1, hq2⟩ := tfnd hq
    have hq3 : q.1 = idx := by simpa using hq2
    split at ho
    · rename_i v r st hs
      split at ho
      · rename_i o9 hobj
        obtain ⟨τ, c, fs⟩ := o9
        split at ho
        · rename_i u hu
          split at ho
          · rename_i t ht
            split at ho
            · rename_i hb
              rw [Bool.and_eq_true, Bool.and_eq_true, Bool.and_eq_true] at hb
              obtain ⟨⟨hb1, hb2⟩, hb3, hb4⟩ := hb
              have hc : c = q.2.1 := by simpa using hb1
              have hb2 : (!(noW c q.2.2.1 || kel K c q.2.2.1)) = true := hb2
              rw [Bool.not_eq_true', Bool.or_eq_false_iff] at hb2
              have hn : noW c q.2.2.1 = false := hb2.1
              cases ho
              obtain ⟨hty, a, V, ha, hg, hV, hf⟩ := tobj_ok hw h hobj
              have hvu := tgetI h hu
              have hvt := vsub_ok hb3 hvu
              obtain ⟨n1, n2⟩ := tfit_ok hb4 hvu
              have hi : ∀ j ∈ v :: r :: st, j < s.2.2.1.length := fun j hj => h.2.1 j (by rw [hs]; exact hj)
              have hP2 := hPp hg hty hV ht hvt hn hb2.2
              have hfk : ∀ p ∈ s.2.2.2.filter (tkeep1 s c q.2.2.1), fok D (va_up w.1 a (some (.inr (c, updV V q.2.2.1 (ρ v)))), w.2) ρ p := by
                intro p hp
                obtain ⟨p1, p2⟩ := List.mem_filter.mp hp
                have p3 := h.2.2.2.2 p p1
                obtain ⟨kp, pa, pb, pc9, pd⟩ := p
                match kp, p2, p3 with
                | 0, p2, p3 =>
                  obtain ⟨a2, ci2, V2, g1, g2, g3⟩ := p3
                  by_cases e : a2 = a
                  · subst e
                    rw [hV] at g2
                    cases g2
                    refine ⟨a2, c, _, g1, va_up_self _ _ _, ?_⟩
                    have hne : pb ≠ q.2.2.1 := by
                      intro e2
                      have p2 : ((!(pb == q.2.2.1)) || tnoc s c pa) = true := p2
                      rw [Bool.or_eq_true] at p2
                      rcases p2 with p2 | p2
                      · rw [e2] at p2; simp at p2
                      · unfold tnoc at p2
                        split at p2
                        · rename_i o8 ho8
                          obtain ⟨τ8, c8, fs8⟩ := o8
                          obtain ⟨-, a8, V8, k1, -, k2, -⟩ := tobj_ok hw h ho8
                          have g1 : ρ pa = .ref a2 := g1
                          rw [k1] at g1
                          cases g1
                          rw [hV] at k2
                          cases k2
                          simp at p2
                        · cases p2
                    show updV V q.2.2.1 (ρ v) pb = _
                    simp only [updV, if_neg hne]
                    exact g3
                  · exact ⟨a2, ci2, V2, g1, (va_up_ne _ _ e).trans g2, g3⟩
                | 1, p2, p3 =>
                  obtain ⟨a2, t2, n2, f2, i2, g1, g2, g3, g4⟩ := p3
                  have e : a2 ≠ a := fun e => by subst e; rw [hV] at g3; cases g3
                  exact ⟨a2, t2, n2, f2, i2, g1, g2, (va_up_ne _ _ e).trans g3, g4⟩
                | 2, p2, p3 => exact p3
                | kp + 3, p2, p3 => exact p3
              have hS : tSat D G (va_up w.1 a (some (.inr (c, updV V q.2.2.1 (ρ v)))), w.2) ρ (s.1, st, s.2.2.1, (0, r, q.2.2.1, v, 0) :: s.2.2.2.filter (tkeep1 s c q.2.2.1)) := by
                refine ⟨h.1, fun j hj => hi j (List.mem_cons_of_mem _ (List.mem_cons_of_mem _ hj)), fun p hp => ?_, h.2.2.2.1, fun p hp => ?_⟩
                · rcases List.mem_cons.mp hp with rfl | hp
                  · intro j hj
                    have : j = r ∨ j = v := by simpa [fids] using hj
                    rcases this with rfl | rfl
                    · exact hi _ (List.mem_cons_of_mem _ List.mem_cons_self)
                    · exact hi _ List.mem_cons_self
                  · exact h.2.2.1 p (List.mem_filter.mp hp).1
                · rcases List.mem_cons.mp hp with rfl | hp
                  · refine ⟨a, c, _, ha, va_up_self _ _ _, ?_⟩
                    show updV V q.2.2.1 (ρ v) q.2.2.1 = _
                    simp only [updV, if_true]
                  · exact hfk p hp
              have kk := hk G _ ρ hP2 (fun _ _ => rfl) hS
              rw [tstk2 hs, ha]
              have hl := hlk.2.1 q hq1
              unfold lkP at hl
              rw [hc] at hV
              split at hl
              · exact j_put C (hq3 ▸ hd) hl hV n1 n2 (by rw [← hc]; exact kk)
              · exact j_putN C (hq3 ▸ hd) hl hV n1 n2 (by rw [← hc]; exact kk)
            · cases ho
          · cases ho
        · cases ho
      · cases ho
    · cases ho
  · cases ho
/-- an array's type -/
def tarr (s : tS) (r : Nat) : Option (Nat × Nat × Nat × vT) := match s.2.2.1[r]? with
  | some t => (match t.1 == 4 with
    | true => (match tyO t.2.1.toNat with
      | some _ => none
      | none => (match tyA t.2.1.toNat with
        | some x => some (t.2.1.toNat, x.1, x.2.1, x.2.2)
        | none => none))
    | false => none)
  | none => none
theorem tarr_ok {D : va_G} {G : tG} {w : jW} {ρ : Nat → Value} {s : tS} (h : tSat D G w ρ s) {r τ k n : Nat} {e : vT} (ho : tarr s r = some (τ, k, n, e)) : tyO τ = none ∧ tyA τ = some (k, n, e) ∧ ∃ a, ρ r = .ref a ∧ G a = some τ := by
  unfold tarr at ho
  split at ho
  · rename_i t ht
    split at ho
    · rename_i h4
      split at ho
      · cases ho
      · rename_i hty
        split at ho
        · rename_i x hx
          cases ho
          have hv := h.2.2.2.1 _ _ ht
          obtain ⟨kt, ta, tb⟩ := t
          have e9 : kt = 4 := by simpa using h4
          subst e9
          obtain ⟨a, ha, hg⟩ := hv
          exact ⟨hty, hx, a, ha, hg⟩
        · cases ho
    · cases ho
  · cases ho
/-- an index within -/
def tidx (t : vT) (n : Nat) : Bool := tint t && (ile 0 t.2.1 && ile (t.2.2 + 1) n)
theorem tidx_ok {t : vT} {n : Nat} {v : Value} (h : tidx t n = true) (hv : vok G t v) : ∃ i : Int32, v = .int i ∧ vp_in i n ∧ i.toNatClampNeg < n := by
  unfold tidx at h
  rw [Bool.and_eq_true, Bool.and_eq_true] at h
  obtain ⟨x, hx, h1, h2⟩ := vok_int h.1 hv
  have a1 := ile_ok h.2.1
  have a2 := ile_ok h.2.2
  have hin : vp_in x n := jin (by omega) (by omega)
  exact ⟨x, hx, hin, Nat.not_le.mp fun q => hin (Or.inr q)⟩
def elt (kd : Nat) (e : vT) : vT := match kd with
  | 1 => (2, 0, 0)
  | _ => e
def taload (kd pc : Nat) (s : tS) : Option (Nat × tS) := match s.2.1 with
  | i :: r :: st => (match tarr s r with
    | some x => (match s.2.2.1[i]? with
      | some u => (match x.2.1 == kd && tidx u x.2.2.1 with
        | true => some (pc + 1, tpush s st (elt kd x.2.2.2))
        | false => none)
      | none => none)
    | none => none)
  | _ => none
theorem taload_ok {kd : Nat} (ho : taload kd pc s = some o) (hw : WOK D G w) (h : tSat D G w ρ s) : ∃ i r st τ n e a iv, s.2.1 = i :: r :: st ∧ tyO τ = none ∧ tyA τ = some (kd, n, e) ∧ ρ r = .ref a ∧ G a = some τ ∧ ρ i = .int iv ∧ vp_in iv n ∧ iv.toNatClampNeg < n ∧ o = (pc + 1, tpush s st (elt kd e)) := by
  unfold taload at ho
  split at ho
  · rename_i i r st hs
    split at ho
    · rename_i x hx
      obtain ⟨τ, k, n, e⟩ := x
      split at ho
      · rename_i u hu
        split at ho
        · rename_i hb
          rw [Bool.and_eq_true] at hb
          have hk : k = kd := by simpa using hb.1
          subst hk
          cases ho
          obtain ⟨h1, h2, a, h3, h4⟩ := tarr_ok h hx
          obtain ⟨iv, h5, h6, h7⟩ := tidx_ok hb.2 (tgetI h hu)
          exact ⟨i, r, st, τ, n, e, a, iv, hs, h1, h2, h3, h4, h5, h6, h7, rfl⟩
        · cases ho
      · cases ho
    · cases ho
  · cases ho
theorem tpush_out (hP : P G w) (h : tSat D G w ρ s) {st : List Nat} {t : vT} {v : Value} {pc : Nat} (hst : ∀ i ∈ st, i < s.2.2.1.length) (hv : vok G t v) (hk : tOut g P D s.2.2.1.length ρ (pc, tpush s st t)) : JJ g w pc (cL ρ s) (v :: st.map ρ) := by
  obtain ⟨h1, h2, h3⟩ := tpush_ok h hst hv
  have := hk G w _ hP (fun j hj => rset_ne hj) h1
  rw [← h2, ← h3]
  exact this
theorem tiald_ok (C : jX g cc nL own D) (hd : decode cc pc = .ok (.iaload, 1)) (hP : P G w) (hw : WOK D G w) (h : tSat D G w ρ s) (ho : taload 0 pc s = some o) (hk : tOut g P D s.2.2.1.length ρ o) : JJ g w pc (cL ρ s) (cS ρ s) := by
  obtain ⟨i, r, st, τ, n, e, a, iv, hs, h1, h2, h3, h4, h5, h6, h7, rfl⟩ := taload_ok ho hw h
  obtain ⟨f, k1, k2⟩ := (tcell_I h1 h2).mp (hw a τ h4)
  rw [tstk2 hs, h5, h3]
  exact j_iald C hd k1 h6 (tpush_out hP h (fun j hj => h.2.1 j (by rw [hs]; exact List.mem_cons_of_mem _ (List.mem_cons_of_mem _ hj))) (k2 _ h7) hk)
theorem tlald_ok (C : jX g cc nL own D) (hd : decode cc pc = .ok (.laload, 1)) (hP : P G w) (hw : WOK D G w) (h : tSat D G w ρ s) (ho : taload 1 pc s = some o) (hk : tOut g P D s.2.2.1.length ρ o) : JJ g w pc (cL ρ s) (cS ρ s) := by
  obtain ⟨i, r, st, τ, n, e, a, iv, hs, h1, h2, h3, h4, h5, h6, h7, rfl⟩ := taload_ok ho hw h
  obtain ⟨f, k1⟩ := (tcell_J h1 h2).mp (hw a τ h4)
  rw [tstk2 hs, h5, h3]
  exact j_lald C hd k1 h6 (tpush_out (t := (2, 0, 0)) hP h (fun j hj => h.2.1 j (by rw [hs]; exact List.mem_cons_of_mem _ (List.mem_cons_of_mem _ hj))) ⟨_, rfl⟩ hk)
theorem tzald_ok (C : jX g cc nL own D) (hd : decode cc pc = .ok (.baload, 1)) (hP : P G w) (hw : WOK D G w) (h : tSat D G w ρ s) (ho : taload 2 pc s = some o) (hk : tOut g P D s.2.2.1.length ρ o) : JJ g w pc (cL ρ s) (cS ρ s) := by
  obtain ⟨i, r, st, τ, n, e, a, iv, hs, h1, h2, h3, h4, h5, h6, h7, rfl⟩ := taload_ok ho hw h
  obtain ⟨f, k1, k2⟩ := (tcell_Z h1 h2).mp (hw a τ h4)
  rw [tstk2 hs, h5, h3]
  exact j_zald C hd k1 h6 (tpush_out hP h (fun j hj => h.2.1 j (by rw [hs]; exact List.mem_cons_of_mem _ (List.mem_cons_of_mem _ hj))) (k2 _ h7) hk)
/-- an array of references -/
def telm (r i : Nat) (fs : List tF) : Option tF := fs.find? (fun q => q.1 == 1 && (q.2.1 == r && q.2.2.1 == i))
def taald (pc : Nat) (s : tS) : Option (Nat × tS) := match s.2.1 with
  | i :: r :: st => (match tarr s r with
    | some x => (match s.2.2.1[i]? with
      | some u => (match Nat.ble 3 x.2.1 && tidx u x.2.2.1 with
        | true => (match jAT[x.2.1]? with
          | some ty => (match ty.isReference with
            | true => (match telm r i s.2.2.2 with
              | some f => some (pc + 1, (s.1, f.2.2.2.1 :: st, s.2.2.1, s.2.2.2))
              | none => some (pc + 1, (s.1, s.2.2.1.length :: st, s.2.2.1 ++ [x.2.2.2], (1, r, i, s.2.2.1.length, 0) :: s.2.2.2)))
            | false => none)
          | none => none)
        | false => none)
      | none => none)
    | none => none)
  | _ => none
theorem taald_ok (C : jX g cc nL own D) (hd : decode cc pc = .ok (.aaload, 1)) (hP : P G w) (hw : WOK D G w) (h : tSat D G w ρ s) (ho : taald pc s = some o) (hk : tOut g P D s.2.2.1.length ρ o) : JJ g w pc (cL ρ s) (cS ρ s) := by
  unfold taald at ho
  split at ho
  · rename_i i r st hs
    split at ho
    · rename_i x hx
      obtain ⟨τ, k, n, e⟩ := x
      split at ho
      · rename_i u hu
        split at ho
        · rename_i hb
          rw [Bool.and_eq_true] at hb
          have hk3 : 3 ≤ k := Nat.le_of_ble_eq_true hb.1
          obtain ⟨kk, rfl⟩ : ∃ kk, k = kk + 3 := ⟨k - 3, by omega⟩
          split at ho
          · rename_i ty hty
            split at ho
            · rename_i hrf
              obtain ⟨h1, h2, a, h3, h4⟩ := tarr_ok h hx
              obtain ⟨iv, h5, h6, h7⟩ := tidx_ok hb.2 (tgetI h hu)
              obtain ⟨f, k1, k2⟩ := (tcell_R h1 h2).mp (hw a τ h4)
              have hi : ∀ j ∈ i :: r :: st, j < s.2.2.1.length := fun j hj => h.2.1 j (by rw [hs]; exact hj)
              have hi2 : ∀ j ∈ st, j < s.2.2.1.length := fun j hj => hi j (List.mem_cons_of_mem _ (List.mem_cons_of_mem _ hj))
              rw [tstk2 hs, h5, h3]
              split at ho
              · rename_i q hfl
                cases ho
                obtain ⟨f1, f2⟩ := tfnd hfl
                obtain ⟨kf, fr, fk, fv, fd⟩ := q
                have e9 : kf = 1 ∧ fr = r ∧ fk = i := by simpa using f2
                obtain ⟨rfl, rfl, rfl⟩ := e9
                obtain ⟨a2, t2, n2, ff, i2, g1, g2, g3, g4⟩ := h.2.2.2.2 _ f1
                have g1 : ρ fr = .ref a2 := g1
                rw [h3] at g1
                cases g1
                have g2 : ρ fk = .int i2 := g2
                rw [h5] at g2
                cases g2
                rw [k1] at g3
                have ef : f = ff := by
                  have e3 := congrArg (fun z : Option jEl => match z with | some (.inl (_, _, .inr (.inr (.inr (.inr y))))) => y | _ => fun _ => none) g3
                  exact e3
                subst ef
                have hlv : fv < s.2.2.1.length := h.2.2.1 _ f1 fv (by simp [fids])
                refine j_aald C hd hty hrf k1 h6 g4 ?_
                exact hk G w ρ hP (fun _ _ => rfl) (h.re _ _ h.1 (fun j hj => by
                  rcases List.mem_cons.mp hj with rfl | hj
                  · exact hlv
                  · exact hi2 j hj))
              · cases ho
                have hvt := k2 _ h7
                obtain ⟨q1, q2, q3⟩ := tpush_ok h hi2 hvt
                refine j_aald C hd hty hrf k1 h6 rfl ?_
                have h8 := q1.fact (q := (1, r, i, s.2.2.1.length, 0)) (fun j hj => by
                  have : j = r ∨ j = i ∨ j = s.2.2.1.length := by simpa [fids] using hj
                  have := hi r (List.mem_cons_of_mem _ List.mem_cons_self)
                  have := hi i List.mem_cons_self
                  show j < (s.2.2.1 ++ [e]).length
                  simp; omega) ⟨a, kk + 3, n, f, iv, by rw [rset_ne (hi r (List.mem_cons_of_mem _ List.mem_cons_self))]; exact h3, by rw [show (1, r, i, s.2.2.1.length, (0 : Int)).2.2.1 = i from rfl, rset_ne (hi i List.mem_cons_self)]; exact h5, k1, (rset_at _ _ _).symm⟩
                have := hk G w _ hP (fun j hj => rset_ne hj) h8
                rw [← q2, ← q3]
                exact this
            · cases ho
          · cases ho
        · cases ho
      · cases ho
    · cases ho
  · cases ho
end TH
