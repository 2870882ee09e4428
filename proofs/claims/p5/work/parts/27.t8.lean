/-! THE T LAYER: one state is as another says; calls (own work) -/
abbrev mg (m : List Nat) (i : Nat) : Nat := m.getD i 0
def fmap (m : List Nat) (q : tF) : tF := match q.1 with
  | 0 => (0, mg m q.2.1, q.2.2.1, mg m q.2.2.2.1, 0)
  | 1 => (1, mg m q.2.1, mg m q.2.2.1, mg m q.2.2.2.1, 0)
  | 2 => (2, mg m q.2.1, mg m q.2.2.1, mg m q.2.2.2.1, 0)
  | _ => (3, mg m q.2.1, mg m q.2.2.1, 0, q.2.2.2.2)
theorem fmap_ok {D : va_G} {w : jW} {ρ : Nat → Value} {m : List Nat} {q : tF} : fok D w ρ (fmap m q) ↔ fok D w (fun i => ρ (mg m i)) q := by
  obtain ⟨k, a, b, c, d⟩ := q
  match k with
  | 0 => exact Iff.rfl
  | 1 => exact Iff.rfl
  | 2 => exact Iff.rfl
  | k + 3 => exact Iff.rfl
def tvs (A s : tS) (m : List Nat) (i : Nat) : Bool := match A.2.2.1[i]?, s.2.2.1[mg m i]? with
  | some u, some t => vsub t u
  | _, _ => false
def twf (A : tS) : Bool := A.1.all (fun q => Nat.blt q.2 A.2.2.1.length) && (A.2.1.all (fun i => Nat.blt i A.2.2.1.length) && A.2.2.2.all (fun q => (fids q).all (fun i => Nat.blt i A.2.2.1.length)))
/-- the state s is one of A, its ids by m -/
def tchk (A s : tS) (m : List Nat) : Bool := twf A && ((List.range A.2.2.1.length).all (tvs A s m) && (A.1.all (fun q => tlk s.1 q.1 == some (mg m q.2)) && (A.2.1.map (mg m) == s.2.1 && A.2.2.2.all (fun q => s.2.2.2.elem (fmap m q)))))
theorem twf_ok {A : tS} (h : twf A = true) : (∀ q ∈ A.1, q.2 < A.2.2.1.length) ∧ (∀ i ∈ A.2.1, i < A.2.2.1.length) ∧ ∀ q ∈ A.2.2.2, ∀ i ∈ fids q, i < A.2.2.1.length := by
  unfold twf at h
  rw [Bool.and_eq_true, Bool.and_eq_true, List.all_eq_true, List.all_eq_true, List.all_eq_true] at h
  refine ⟨fun q hq => by simpa [Nat.blt_eq] using h.1 q hq, fun i hi => by simpa [Nat.blt_eq] using h.2.1 i hi, fun q hq i hi => ?_⟩
  have := List.all_eq_true.mp (h.2.2 q hq) i hi
  simpa [Nat.blt_eq] using this
theorem tchk_ok {D : va_G} {G : tG} {w : jW} {ρ : Nat → Value} {A s : tS} {m : List Nat} (h : tSat D G w ρ s) (hc : tchk A s m = true) : tSat D G w (fun i => ρ (mg m i)) A ∧ cS (fun i => ρ (mg m i)) A = cS ρ s ∧ jall (cL ρ s) (cL (fun i => ρ (mg m i)) A) := by
  unfold tchk at hc
  rw [Bool.and_eq_true, Bool.and_eq_true, Bool.and_eq_true, Bool.and_eq_true] at hc
  obtain ⟨h1, h2, h3, h4, h5⟩ := hc
  obtain ⟨w1, w2, w3⟩ := twf_ok h1
  refine ⟨⟨w1, w2, w3, fun i t hi => ?_, fun q hq => ?_⟩, ?_, ?_⟩
  · have hlt : i < A.2.2.1.length := (List.getElem?_eq_some_iff.mp hi).1
    have := List.all_eq_true.mp h2 i (List.mem_range.mpr hlt)
    unfold tvs at this
    rw [hi] at this
    split at this
    · rename_i u t9 e1 e2
      cases e1
      exact vsub_ok this (h.2.2.2.1 _ _ e2)
    · cases this
  · have := List.all_eq_true.mp h5 q hq
    exact fmap_ok.mp (h.2.2.2.2 _ (List.elem_iff.mp this))
  · have e : A.2.1.map (mg m) = s.2.1 := by simpa using h4
    show A.2.1.map (fun i => ρ (mg m i)) = s.2.1.map ρ
    rw [← e, List.map_map]
    rfl
  · have h3 := List.all_eq_true.mp h3
    have key : ∀ l : List (Nat × Nat), (∀ q ∈ l, tlk s.1 q.1 == some (mg m q.2)) → jall (cL ρ s) (l.map (fun q => (q.1, ρ (mg m q.2)))) := by
      intro l
      induction l with
      | nil => intro _; trivial
      | cons q l ih =>
        intro hl
        refine ⟨?_, ih (fun p hp => hl p (List.mem_cons_of_mem _ hp))⟩
        have e : tlk s.1 q.1 = some (mg m q.2) := by simpa using hl q List.mem_cons_self
        show jlk (cL ρ s) q.1 = _
        rw [tlk_map, e]
        rfl
    exact key A.1 h3
/-- ids found -/
def tbd (b : List (Nat × Nat)) (i x : Nat) : List (Nat × Nat) := match tlk b i with
  | some _ => b
  | none => (i, x) :: b
def tfindm (A s : tS) (b0 : List (Nat × Nat)) : List Nat :=
  let b1 := A.1.foldl (fun b q => match tlk s.1 q.1 with | some x => tbd b q.2 x | none => b) b0
  let b2 := (A.2.1.zip s.2.1).foldl (fun b q => tbd b q.1 q.2) b1
  let b3 := A.2.2.2.foldl (fun b q => match q.1 with
    | 0 => (match tlk b q.2.1 with
      | some a => (match tfld a q.2.2.1 s.2.2.2 with
        | some f => tbd b q.2.2.2.1 f.2.2.2.1
        | none => b)
      | none => b)
    | 1 => (match tlk b q.2.1, tlk b q.2.2.1 with
      | some a, some i => (match telm a i s.2.2.2 with
        | some f => tbd b q.2.2.2.1 f.2.2.2.1
        | none => b)
      | none, some i => (match s.2.2.2.find? (fun p => p.1 == 1 && p.2.2.1 == i) with
        | some f => tbd (tbd b q.2.1 f.2.1) q.2.2.2.1 f.2.2.2.1
        | none => b)
      | _, _ => b)
    | _ => b) b2
  (List.range A.2.2.1.length).map (fun i => (tlk b3 i).getD 0)
/-- a method with what it asks and what it gives: name, bytes, locals, type, frames, locals' room, whether it changes nothing, state at its entry, states at its end -/
abbrev tI : Type := MethodName × ByteArray × Nat × Option FieldType × Nat × Nat × Bool × List (Nat × Nat) × tS × List tS
abbrev Iy (I : tI) : MethodName := I.1
abbrev Icc (I : tI) : ByteArray := I.2.1
abbrev IL (I : tI) : Nat := I.2.2.1
abbrev Ir (I : tI) : Option FieldType := I.2.2.2.1
abbrev Ifr (I : tI) : Nat := I.2.2.2.2.1
abbrev Ilo (I : tI) : Nat := I.2.2.2.2.2.1
abbrev Ipu (I : tI) : Bool := I.2.2.2.2.2.2.1
abbrev IK (I : tI) : List (Nat × Nat) := I.2.2.2.2.2.2.2.1
abbrev IE (I : tI) : tS := I.2.2.2.2.2.2.2.2.1
abbrev IQ (I : tI) : List tS := I.2.2.2.2.2.2.2.2.2
/-- the kept fields are as they were -/
def TRk (K : List (Nat × Nat)) (G : tG) (w w9 : jW) : Prop := (∀ (a τ c : Nat) (fs : List vT) (V V9 : Nat → Value) (k : Nat), G a = some τ → tyO τ = some (c, fs) → kel K c k = true → w.1 a = some (.inr (c, V)) → w9.1 a = some (.inr (c, V9)) → V9 k = V k) ∧ ∀ (a τ : Nat), G a = some τ → tyO τ = none → kel K (1000 + τ) 0 = true → w9.1 a = w.1 a
abbrev Iav (I : tI) (ρ : Nat → Value) : List Value := ((IE I).2.1.reverse).map ρ
/-- what holds at its end -/
def tEnd (D : va_G) (I : tI) (G : tG) (w : jW) (ρ : Nat → Value) (v : Option Value) (w9 : jW) : Prop := ∃ G9, WOK D G9 w9 ∧ bud G9 w9 ∧ TRr G w G9 w9 ∧ TRk (IK I) G w w9 ∧ (Ipu I = true → G9 = G ∧ w9 = w) ∧ ∃ Q ∈ IQ I, ∃ ρ9, (∀ i, i < (IE I).2.1.length → ρ9 i = ρ i) ∧ tSat D G9 w9 ρ9 Q ∧ v.toList = cS ρ9 Q
def tCon (l : Launch) (D : va_G) (B : Nat) (H0 : Heap) (I : tI) : Prop := ∀ (G : tG) (w : jW) (ρ : Nat → Value), WOK D G w → bud G w → tSat D G w ρ (IE I) → jMet l D B H0 (Iy I) (Icc I) (IL I) (Ir I) (Ifr I) (Ilo I) (KC - w.2.1) (KS - w.2.2) (Iav I ρ) w (tEnd D I G w ρ)
/-- a fact that outlives a call -/
def tkp0 (K : List (Nat × Nat)) (s : tS) (r k : Nat) : Bool := match tobj s r with
  | some o => keepF o.2.1 k || kel K o.2.1 k
  | none => false
def tkp1 (s : tS) (r c : Nat) : Bool := match tarr s r with
  | some x => keepA x.1 && (match s.2.2.1[c]? with
    | some t => t.1 == 4
    | none => false)
  | none => false
def tkp (K : List (Nat × Nat)) (s : tS) (q : tF) : Bool := match q.1 with
  | 0 => tkp0 K s q.2.1 q.2.2.1
  | 1 => tkp1 s q.2.1 q.2.2.2.1
  | _ => true
theorem tkp_ok {D : va_G} {K : List (Nat × Nat)} {G G9 : tG} {w w9 : jW} {ρ : Nat → Value} {s : tS} {q : tF} (hw : WOK D G w) (hw9 : WOK D G9 w9) (hT : TRr G w G9 w9) (hK : TRk K G w w9) (h : tSat D G w ρ s) (hf : fok D w ρ q) (hk : tkp K s q = true) : fok D w9 ρ q := by
  obtain ⟨t1, t2, t3, t4, t5, t6⟩ := hT
  obtain ⟨kq, a, b, c, d⟩ := q
  match kq, hf, hk with
  | 0, hf, hk =>
    obtain ⟨x, ci, V, g1, g2, g3⟩ := hf
    have hk : tkp0 K s a b = true := hk
    unfold tkp0 at hk
    split at hk
    · rename_i o ho
      obtain ⟨τ, c0, fs⟩ := o
      obtain ⟨hty, a2, V2, k1, k2, k3, -⟩ := tobj_ok hw h ho
      have g1 : ρ a = .ref x := g1
      rw [k1] at g1
      have ex : x = a2 := by cases g1; rfl
      rw [ex, k3] at g2
      have eV : V2 = V := by cases g2; rfl
      obtain ⟨V9, e1, -⟩ := (tcell_O hty).mp (hw9 a2 τ (t1 _ _ k2))
      rw [Bool.or_eq_true] at hk
      have e9 : V9 b = V2 b := by
        rcases hk with hk | hk
        · exact t6 a2 τ _ V2 V9 k2 hty k3 e1 b hk
        · exact hK.1 a2 τ c0 fs V2 V9 b k2 hty hk k3 e1
      exact ⟨a2, c0, V9, k1, e1, e9.trans (by rw [eV]; exact g3)⟩
    · cases hk
  | 1, hf, hk =>
    obtain ⟨x, t, n, f, i, g1, g2, g3, g4⟩ := hf
    have hk : tkp1 s a c = true := hk
    unfold tkp1 at hk
    split at hk
    · rename_i o ho
      obtain ⟨τ, k, n9, e9⟩ := o
      obtain ⟨-, -, a2, k1, k2⟩ := tarr_ok h ho
      have g1 : ρ a = .ref x := g1
      rw [k1] at g1
      have ex : x = a2 := by cases g1; rfl
      rw [Bool.and_eq_true] at hk
      obtain ⟨hk1, hk2⟩ := hk
      rw [ex] at g3
      obtain ⟨f9, e1, e2⟩ := t5 a2 τ k2 hk1 (D.1 (100 + t)) n f g3
      refine ⟨a2, t, n, f9, i, k1, g2, e1, ?_⟩
      split at hk2
      · rename_i t9 ht9
        have hv := h.2.2.2.1 _ _ ht9
        obtain ⟨kt, ta, tb⟩ := t9
        have e4 : kt = 4 := by simpa using hk2
        subst e4
        obtain ⟨r, hr, -⟩ := hv
        have g4 : va_rf (f i.toNatClampNeg) = ρ c := g4
        rw [hr] at g4
        have e5 : f i.toNatClampNeg = some r := by
          cases e6 : f i.toNatClampNeg with
          | none => rw [e6] at g4; cases g4
          | some r2 => rw [e6] at g4; cases g4; rfl
        show va_rf (f9 i.toNatClampNeg) = ρ c
        rw [e2 _ _ e5, hr]
        rfl
      · cases hk2
    · cases hk
  | 2, hf, hk => exact hf
  | kq + 3, hf, hk => exact hf
/-- types refined -/
def trefs : List (Nat × vT) → List vT → List vT
  | [], vs => vs
  | q :: l, vs => trefs l (match vs[q.1]? with
    | some t => (match vsub t q.2 with
      | true => vs
      | false => vs.set q.1 q.2)
    | none => vs)
theorem trefs_ok {G : tG} {ρ : Nat → Value} : ∀ (l : List (Nat × vT)) (vs : List vT), (∀ i t, vs[i]? = some t → vok G t (ρ i)) → (∀ q ∈ l, vok G q.2 (ρ q.1)) → (trefs l vs).length = vs.length ∧ ∀ i t, (trefs l vs)[i]? = some t → vok G t (ρ i) := by
  intro l
  induction l with
  | nil => intro vs h _; exact ⟨rfl, h⟩
  | cons q l ih =>
    intro vs h hl
    unfold trefs
    have hq := hl q List.mem_cons_self
    have h2 : (∀ i t, (match vs[q.1]? with | some t => (match vsub t q.2 with | true => vs | false => vs.set q.1 q.2) | none => vs)[i]? = some t → vok G t (ρ i)) ∧ (match vs[q.1]? with | some t => (match vsub t q.2 with | true => vs | false => vs.set q.1 q.2) | none => vs).length = vs.length := by
      split
      · split
        · exact ⟨h, rfl⟩
        · refine ⟨fun i t hi => ?_, List.length_set⟩
          by_cases e : q.1 = i
          · have hlt : q.1 < vs.length := by
              have := (List.getElem?_eq_some_iff.mp hi).1
              rw [List.length_set] at this
              omega
            rw [← e, List.getElem?_set_self hlt] at hi
            cases hi
            rw [← e]; exact hq
          · rw [List.getElem?_set_ne e] at hi
            exact h i t hi
      · exact ⟨h, rfl⟩
    obtain ⟨a, b⟩ := ih _ h2.1 (fun p hp => hl p (List.mem_cons_of_mem _ hp))
    exact ⟨a.trans h2.2, b⟩
/-- the state behind a call -/
def tbeh (I : tI) (s : tS) (m : List Nat) (Q : tS) : tS :=
  let n := (IE I).2.1.length
  let mq := (List.range Q.2.2.1.length).map (fun j => match Nat.blt j n with | true => mg m j | false => s.2.2.1.length + (j - n))
  (s.1, Q.2.1.map (mg mq) ++ s.2.1.drop n, trefs ((List.range n).map (fun j => (mg m j, (Q.2.2.1[j]?).getD (s.2.2.1.getD (mg m j) (2, 0, 0))))) s.2.2.1 ++ Q.2.2.1.drop n, Q.2.2.2.map (fmap mq) ++ (match Ipu I with | true => s.2.2.2 | false => s.2.2.2.filter (tkp (IK I) s)))
theorem tbeh_ok {D : va_G} {G G9 : tG} {w w9 : jW} {ρ ρ9 : Nat → Value} {s Q : tS} {I : tI} {m : List Nat} (hw : WOK D G w) (hw9 : WOK D G9 w9) (hT : TRr G w G9 w9) (hK : TRk (IK I) G w w9) (hpu : Ipu I = true → G9 = G ∧ w9 = w) (h : tSat D G w ρ s) (hQ : tSat D G9 w9 ρ9 Q) (hm : ∀ j, j < (IE I).2.1.length → mg m j < s.2.2.1.length ∧ ρ9 j = ρ (mg m j)) :
    ∃ ρ', (∀ i, i < s.2.2.1.length → ρ' i = ρ i) ∧ tSat D G9 w9 ρ' (tbeh I s m Q) ∧ cL ρ' (tbeh I s m Q) = cL ρ s ∧ cS ρ' (tbeh I s m Q) = cS ρ9 Q ++ (s.2.1.drop (IE I).2.1.length).map ρ := by
  obtain ⟨n, hn⟩ : ∃ n, n = (IE I).2.1.length := ⟨_, rfl⟩
  obtain ⟨mq, hmq⟩ : ∃ mq, mq = (List.range Q.2.2.1.length).map (fun j => match Nat.blt j n with | true => mg m j | false => s.2.2.1.length + (j - n)) := ⟨_, rfl⟩
  rw [← hn] at hm
  have hb : tbeh I s m Q = (s.1, Q.2.1.map (mg mq) ++ s.2.1.drop n, trefs ((List.range n).map (fun j => (mg m j, (Q.2.2.1[j]?).getD (s.2.2.1.getD (mg m j) (2, 0, 0))))) s.2.2.1 ++ Q.2.2.1.drop n, Q.2.2.2.map (fmap mq) ++ (match Ipu I with | true => s.2.2.2 | false => s.2.2.2.filter (tkp (IK I) s))) := by
    rw [hmq, hn]; rfl
  obtain ⟨N, hN⟩ : ∃ N, N = s.2.2.1.length := ⟨_, rfl⟩
  have hmono : ∀ i t, s.2.2.1[i]? = some t → vok G9 t (ρ i) := fun i t hi => vok_mono hT.1 (h.2.2.2.1 i t hi)
  have hlist : ∀ q ∈ (List.range n).map (fun j => (mg m j, (Q.2.2.1[j]?).getD (s.2.2.1.getD (mg m j) (2, 0, 0)))), vok G9 q.2 (ρ q.1) := by
    intro q hq
    obtain ⟨j, hj, rfl⟩ := List.mem_map.mp hq
    have hjn := List.mem_range.mp hj
    obtain ⟨h1, h2⟩ := hm j hjn
    show vok G9 ((Q.2.2.1[j]?).getD (s.2.2.1.getD (mg m j) (2, 0, 0))) (ρ (mg m j))
    cases e : Q.2.2.1[j]? with
    | some t =>
      rw [← h2]
      exact hQ.2.2.2.1 j t e
    | none =>
      show vok G9 (s.2.2.1.getD (mg m j) (2, 0, 0)) _
      have e2 : s.2.2.1.getD (mg m j) (2, 0, 0) = s.2.2.1[mg m j] := by rw [List.getD_eq_getElem?_getD, List.getElem?_eq_getElem h1]; rfl
      rw [e2]
      exact hmono _ _ (List.getElem?_eq_getElem h1)
  obtain ⟨hlen, hty⟩ := trefs_ok (G := G9) (ρ := ρ) _ s.2.2.1 hmono hlist
  generalize trefs ((List.range n).map (fun j => (mg m j, (Q.2.2.1[j]?).getD (s.2.2.1.getD (mg m j) (2, 0, 0))))) s.2.2.1 = vs1 at hb hlen hty
  have hmqj : ∀ j, j < Q.2.2.1.length → mg mq j = (match Nat.blt j n with | true => mg m j | false => N + (j - n)) := by
    intro j hj
    show mq.getD j 0 = _
    rw [hmq, hN]
    simp [List.getD, hj]
  have hag : ∀ j, j < Q.2.2.1.length → (fun i => if i < N then ρ i else ρ9 (n + (i - N))) (mg mq j) = ρ9 j := by
    intro j hj
    rw [hmqj j hj]
    cases e : Nat.blt j n with
    | true =>
      have hjn : j < n := by simpa [Nat.blt_eq] using e
      obtain ⟨h1, h2⟩ := hm j hjn
      show (if mg m j < N then _ else _) = _
      rw [if_pos (by omega)]
      exact h2.symm
    | false =>
      have hjn : ¬ j < n := fun q => by
        have : Nat.blt j n = true := by simpa [Nat.blt_eq] using q
        rw [e] at this; cases this
      show (if N + (j - n) < N then _ else _) = _
      rw [if_neg (by omega)]
      show ρ9 (n + (N + (j - n) - N)) = ρ9 j
      congr 1
      omega
  have hlt : ∀ j, j < Q.2.2.1.length → mg mq j < (vs1 ++ Q.2.2.1.drop n).length := by
    intro j hj
    rw [hmqj j hj, List.length_append, List.length_drop, hlen, ← hN]
    cases e : Nat.blt j n with
    | true =>
      have hjn : j < n := by simpa [Nat.blt_eq] using e
      have := (hm j hjn).1
      show mg m j < _
      omega
    | false =>
      have hjn : ¬ j < n := fun q => by
        have : Nat.blt j n = true := by simpa [Nat.blt_eq] using q
        rw [e] at this; cases this
      show N + (j - n) < _
      omega
  have hge : s.2.2.1.length ≤ (vs1 ++ Q.2.2.1.drop n).length := by rw [List.length_append, hlen]; omega
  have hold : ∀ i, i < s.2.2.1.length → (fun i => if i < N then ρ i else ρ9 (n + (i - N))) i = ρ i := by
    intro i hi
    show (if i < N then _ else _) = _
    rw [if_pos (by omega)]
  obtain ⟨ρ', hρ'⟩ : ∃ ρ', ρ' = fun i => if i < N then ρ i else ρ9 (n + (i - N)) := ⟨_, rfl⟩
  rw [← hρ'] at hag hold
  refine ⟨ρ', hold, ?_, ?_, ?_⟩
  · rw [hb]
    refine ⟨fun q hq => Nat.lt_of_lt_of_le (h.1 q hq) hge, fun i hi => ?_, fun q hq => ?_, fun i t hi => ?_, fun q hq => ?_⟩
    · rcases List.mem_append.mp hi with hi | hi
      · obtain ⟨j, hj, rfl⟩ := List.mem_map.mp hi
        exact hlt j (hQ.2.1 j hj)
      · exact Nat.lt_of_lt_of_le (h.2.1 i (List.mem_of_mem_drop hi)) hge
    · rcases List.mem_append.mp hq with hq | hq
      · obtain ⟨p, hp, rfl⟩ := List.mem_map.mp hq
        have hp3 := hQ.2.2.1 p hp
        obtain ⟨kp, a, b, c, d⟩ := p
        match kp, hp3 with
        | 0, hp3 =>
          intro i hi
          have : i = mg mq a ∨ i = mg mq c := by simpa [fids, fmap] using hi
          rcases this with rfl | rfl
          · exact hlt a (hp3 a (by simp [fids]))
          · exact hlt c (hp3 c (by simp [fids]))
        | 1, hp3 =>
          intro i hi
          have : i = mg mq a ∨ i = mg mq b ∨ i = mg mq c := by simpa [fids, fmap] using hi
          rcases this with rfl | rfl | rfl
          · exact hlt a (hp3 a (by simp [fids]))
          · exact hlt b (hp3 b (by simp [fids]))
          · exact hlt c (hp3 c (by simp [fids]))
        | 2, hp3 =>
          intro i hi
          have : i = mg mq a ∨ i = mg mq b ∨ i = mg mq c := by simpa [fids, fmap] using hi
          rcases this with rfl | rfl | rfl
          · exact hlt a (hp3 a (by simp [fids]))
          · exact hlt b (hp3 b (by simp [fids]))
          · exact hlt c (hp3 c (by simp [fids]))
        | kp + 3, hp3 =>
          intro i hi
          have : i = mg mq a ∨ i = mg mq b := by simpa [fids, fmap] using hi
          rcases this with rfl | rfl
          · exact hlt a (hp3 a (by simp [fids]))
          · exact hlt b (hp3 b (by simp [fids]))
      · have hq2 : q ∈ s.2.2.2 := by
          split at hq
          · exact hq
          · exact (List.mem_filter.mp hq).1
        exact fun i hi => Nat.lt_of_lt_of_le (h.2.2.1 q hq2 i hi) hge
    · have hi : (vs1 ++ Q.2.2.1.drop n)[i]? = some t := hi
      by_cases e : i < vs1.length
      · rw [List.getElem?_append_left e] at hi
        rw [hold i (by omega)]
        exact hty i t hi
      · rw [List.getElem?_append_right (by omega), List.getElem?_drop] at hi
        rw [hρ']
        show vok G9 t (if i < N then _ else _)
        rw [if_neg (by omega)]
        have : n + (i - vs1.length) = n + (i - N) := by omega
        rw [this] at hi
        exact hQ.2.2.2.1 _ t hi
    · rcases List.mem_append.mp hq with hq | hq
      · obtain ⟨p, hp, rfl⟩ := List.mem_map.mp hq
        exact fmap_ok.mpr (fok_agree (fun i hi => hag i (hQ.2.2.1 p hp i hi)) (hQ.2.2.2.2 p hp))
      · have hq2 : q ∈ s.2.2.2 ∧ fok D w9 ρ q := by
          split at hq
          · rename_i e
            obtain ⟨e1, e2⟩ := hpu e
            exact ⟨hq, by rw [e2]; exact h.2.2.2.2 q hq⟩
          · obtain ⟨h1, h2⟩ := List.mem_filter.mp hq
            exact ⟨h1, tkp_ok hw hw9 hT hK h (h.2.2.2.2 q h1) h2⟩
        exact fok_agree (fun i hi => hold i (h.2.2.1 q hq2.1 i hi)) hq2.2
  · rw [hb]
    exact cL_agree (s := s) (n := s.2.2.1.length) hold h.1
  · rw [hb]
    show (Q.2.1.map (mg mq) ++ s.2.1.drop n).map ρ' = _
    rw [List.map_append, List.map_map, ← hn]
    congr 1
    · exact List.map_congr_left (fun j hj => hag j (hQ.2.1 j hj))
    · exact List.map_congr_left (fun i hi => hold i (h.2.1 i (List.mem_of_mem_drop hi)))
