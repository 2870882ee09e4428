/-! THE T LAYER: a method's check proves its contract (own work) -/
theorem TRk.rfl' {K : List (Nat × Nat)} {G : tG} {w : jW} : TRk K G w w := ⟨fun a τ c fs V V9 k _ _ _ h1 h2 => by
  have e : V = V9 := congrArg Prod.snd (Sum.inr.inj (Option.some.inj (h1.symm.trans h2)))
  rw [e], fun _ _ _ _ _ => rfl⟩
def tid (n : Nat) : List (Nat × Nat) := (List.range n).map (fun i => (i, i))
def tfix (n : Nat) (m : List Nat) : Bool := (List.range n).all (fun i => mg m i == i)
def tpost (I : tI) (s : tS) : Bool := (IQ I).any (fun Q => tchk Q ([], s.2.1, s.2.2.1, s.2.2.2) (tfindm Q ([], s.2.1, s.2.2.1, s.2.2.2) (tid (IE I).2.1.length)) && tfix (IE I).2.1.length (tfindm Q ([], s.2.1, s.2.2.1, s.2.2.2) (tid (IE I).2.1.length)))
def tty1 (s : tS) : Option vT := match s.2.1 with
  | [x] => s.2.2.1[x]?
  | _ => none
def tret (I : tI) (i : Instr) (len : Nat) (s : tS) : Bool := (len == 1 && tpost I s) && (match i with
  | .ireturn => (match Ir I, tty1 s with
    | some .int, some t => tint t
    | some .boolean, some t => tfit .boolean t
    | _, _ => false)
  | .lreturn => (match Ir I, tty1 s with
    | some .long, some t => tlng t
    | _, _ => false)
  | .areturn => (match Ir I, tty1 s with
    | some (.object _), some t => trf t
    | _, _ => false)
  | .return_ => (match Ir I with
    | none => s.2.1.isEmpty
    | _ => false)
  | _ => false)
def tMok (s : tS) (M : tM) : Bool := M.all (fun q => q.1 == 0 || Nat.blt q.2.1 s.2.2.1.length)
/-- fields of the first argument's object, looked up ahead of a head -/
def tld1 (s : tS) (k : Nat) : tS := match tfld 0 k s.2.2.2 with
  | some _ => s
  | none => (match tobj s 0 with
    | some o => (match o.2.2[k]? with
      | some t => (s.1, s.2.1, s.2.2.1 ++ [t], (0, 0, k, s.2.2.1.length, 0) :: s.2.2.2)
      | none => s)
    | none => s)
def tpre (fs : List tF) (s : tS) : tS := match fs with
  | [] => s
  | q :: l => tpre l (match q.1 == 0 && q.2.1 == 0 with
    | true => tld1 s q.2.2.1
    | false => s)
def tedge0 (n : Nat) (M : tM) (hd : Nat × tS × tM) (s : tS) : Bool := tchk hd.2.1 s (tfindm hd.2.1 s (tid n)) && (tfix n (tfindm hd.2.1 s (tid n)) && tmlt s (tfindm hd.2.1 s (tid n)) 8 M hd.2.2)
def tedge (n : Nat) (M : tM) (hd : Nat × tS × tM) (s : tS) : Bool := tedge0 n M hd (tpre hd.2.1.2.2.2 s)
theorem tld1_ok {D : va_G} {G : tG} {w : jW} {ρ : Nat → Value} {s : tS} (hw : WOK D G w) (h : tSat D G w ρ s) (k : Nat) : ∃ ρ', (∀ i, i < s.2.2.1.length → ρ' i = ρ i) ∧ tSat D G w ρ' (tld1 s k) ∧ cL ρ' (tld1 s k) = cL ρ s ∧ cS ρ' (tld1 s k) = cS ρ s ∧ s.2.2.1.length ≤ (tld1 s k).2.2.1.length := by
  unfold tld1
  split
  · exact ⟨ρ, fun _ _ => rfl, h, rfl, rfl, Nat.le_refl _⟩
  · split
    · rename_i o ho
      obtain ⟨τ, c, fs⟩ := o
      split
      · rename_i t ht
        obtain ⟨hty, a, V, ha, hg, hV, hf⟩ := tobj_ok hw h ho
        have h0 : 0 < s.2.2.1.length := by
          unfold tobj at ho
          split at ho
          · rename_i t9 h9
            exact (List.getElem?_eq_some_iff.mp h9).1
          · cases ho
        have h1 := h.new (hf _ _ ht)
        have h2 := h1.fact (q := (0, 0, k, s.2.2.1.length, 0)) (fun j hj => by
          have : j = 0 ∨ j = s.2.2.1.length := by simpa [fids] using hj
          show j < (s.2.2.1 ++ [t]).length
          simp; omega) ⟨a, c, V, by show rset ρ _ _ 0 = _; rw [rset_ne h0]; exact ha, hV, (rset_at _ _ _).symm⟩
        exact ⟨_, fun i hi => rset_ne hi, h2, cL_agree (s := s) (n := s.2.2.1.length) (fun i hi => rset_ne hi) h.1, cS_agree (s := s) (n := s.2.2.1.length) (fun i hi => rset_ne hi) h.2.1, by simp⟩
      · exact ⟨ρ, fun _ _ => rfl, h, rfl, rfl, Nat.le_refl _⟩
    · exact ⟨ρ, fun _ _ => rfl, h, rfl, rfl, Nat.le_refl _⟩
theorem tpre_ok {D : va_G} {G : tG} {w : jW} (hw : WOK D G w) : ∀ (fs : List tF) (s : tS) (ρ : Nat → Value), tSat D G w ρ s → ∃ ρ', (∀ i, i < s.2.2.1.length → ρ' i = ρ i) ∧ tSat D G w ρ' (tpre fs s) ∧ cL ρ' (tpre fs s) = cL ρ s ∧ cS ρ' (tpre fs s) = cS ρ s := by
  intro fs
  induction fs with
  | nil => intro s ρ h; exact ⟨ρ, fun _ _ => rfl, h, rfl, rfl⟩
  | cons q l ih =>
    intro s ρ h
    unfold tpre
    split
    · obtain ⟨ρ1, a1, a2, a3, a4, a5⟩ := tld1_ok hw h q.2.2.1
      obtain ⟨ρ2, b1, b2, b3, b4⟩ := ih _ ρ1 a2
      exact ⟨ρ2, fun i hi => (b1 i (Nat.lt_of_lt_of_le hi a5)).trans (a1 i hi), b2, b3.trans a3, b4.trans a4⟩
    · exact ih s ρ h
def texec (I : tI) (Is : List tI) (md : tMD) (M : tM) : Nat → Nat → tS → Bool
  | 0, _, _ => false
  | f + 1, pc, s => match md.1.find? (fun q => q.1 == pc) with
    | none => false
    | some q => tret I q.2.1 q.2.2.1 s || (match tstep (Ipu I) (IK I) Is md (IL I) (Ifr I) (Ilo I) pc q.2.1 q.2.2.1 q.2.2.2 s with
      | some outs => outs.all (fun o => Nat.ble s.2.2.1.length o.2.2.2.1.length && (match md.2.2.2.find? (fun h => h.1 == o.1) with
        | some hd => tedge (IE I).2.1.length M hd o.2
        | none => texec I Is md M f o.1 o.2))
      | none => false)
def tlocs (vs : List vT) : Nat → List Nat → List (Nat × Nat)
  | _, [] => []
  | k, i :: l => (k, i) :: tlocs vs (match tlg vs i with | true => k + 2 | false => k + 1) l
def tent (I : tI) : tS := (tlocs (IE I).2.2.1 0 (IE I).2.1.reverse, [], (IE I).2.2.1, (IE I).2.2.2)
def tM0 : tM := [(0, 1000000000, 0)]
def tcheckX (xs : List Nat) (Is : List tI) (md : tMD) (fuel : Nat) (I : tI) : Bool :=
  (twf (IE I) && ((IE I).1.isEmpty && ((IE I).2.1.reverse == List.range (IE I).2.1.length && (Nat.ble (tsum (IE I) (IE I).2.1.reverse) (IL I) && Nat.ble (IE I).2.1.length (IE I).2.2.1.length)))) &&
  ((match md.2.2.2.find? (fun h => h.1 == 0) with
    | some hd => tedge (IE I).2.1.length tM0 hd (tent I)
    | none => texec I Is md tM0 fuel 0 (tent I)) &&
  md.2.2.2.all (fun hd => twf hd.2.1 && (tMok hd.2.1 hd.2.2 && (Nat.ble (IE I).2.1.length hd.2.1.2.2.1.length && (xs.elem hd.1 || texec I Is md hd.2.2 fuel hd.1 hd.2.1)))))
def tcheck (Is : List tI) (md : tMD) (fuel : Nat) (I : tI) : Bool := tcheckX [] Is md fuel I
theorem tlocs_ok {D : va_G} {G : tG} {w : jW} {ρ : Nat → Value} {s : tS} (h : tSat D G w ρ s) : ∀ (l : List Nat) (k : Nat), (∀ i ∈ l, i < s.2.2.1.length) → lv_args k (l.map ρ) = (tlocs s.2.2.1 k l).map (fun q => (q.1, ρ q.2)) := by
  intro l
  induction l with
  | nil => intro k _; rfl
  | cons i l ih =>
    intro k hl
    obtain ⟨t, ht⟩ := h.len (hl i List.mem_cons_self)
    have hc := vok_cat (h.2.2.2.1 _ _ ht)
    simp only [List.map_cons, lv_args, tlocs]
    congr 1
    have e : (if (ρ i).category = 2 then k + 2 else k + 1) = (match tlg s.2.2.1 i with | true => k + 2 | false => k + 1) := by
      unfold tlg
      rw [ht]
      dsimp only
      rw [hc]
      by_cases e2 : tcat t = 2
      · rw [if_pos e2, e2]; rfl
      · rw [if_neg e2]
        have : (tcat t == 2) = false := by simpa using e2
        rw [this]
    rw [e]
    exact ih _ (fun j hj => hl j (List.mem_cons_of_mem _ hj))
theorem tlocs_lt {vs : List vT} : ∀ (l : List Nat) (k : Nat), ∀ q ∈ tlocs vs k l, q.2 ∈ l := by
  intro l
  induction l with
  | nil => intro k q hq; cases hq
  | cons i l ih =>
    intro k q hq
    rcases List.mem_cons.mp hq with rfl | h
    · exact List.mem_cons_self
    · exact List.mem_cons_of_mem _ (ih _ q h)
theorem lgsl_len : ∀ l : List Value, (lg_sl l).length ≤ (l.map fun v => v.category).sum := by
  intro l
  induction l with
  | nil => exact Nat.le_refl 0
  | cons v l ih =>
    unfold lg_sl at ih ⊢
    rw [List.flatMap_cons, List.length_append, List.map_cons, List.sum_cons]
    have : (if v.category = 2 then [Slot.val v, Slot.second] else [Slot.val v]).length ≤ v.category := by
      split
      · rename_i e; rw [e]; exact Nat.le_refl 2
      · show 1 ≤ v.category
        cases v <;> first | exact Nat.le_refl 1 | exact (by decide : (1 : Nat) ≤ 2)
    omega
theorem mval_agree {ρ ρ' : Nat → Value} {s : tS} {M : tM} (hM : tMok s M = true) (h : ∀ i, i < s.2.2.1.length → ρ' i = ρ i) : M.map (mval ρ') = M.map (mval ρ) := by
  apply List.map_congr_left
  intro q hq
  have := List.all_eq_true.mp hM q hq
  rw [Bool.or_eq_true] at this
  obtain ⟨k, x, b⟩ := q
  rcases this with e | e
  · have e : k = 0 := by simpa using e
    subst e
    rfl
  · have e2 : x < s.2.2.1.length := by simpa [Nat.blt_eq] using e
    match k with
    | 0 => rfl
    | 1 => show (b - ival (ρ' x)).toNat = (b - ival (ρ x)).toNat; rw [h x e2]
    | k + 2 => show (ival (ρ' x) - b).toNat = (ival (ρ x) - b).toNat; rw [h x e2]
theorem tMok_mono {s s' : tS} {M : tM} (hM : tMok s M = true) (h : s.2.2.1.length ≤ s'.2.2.1.length) : tMok s' M = true := by
  unfold tMok at hM ⊢
  rw [List.all_eq_true] at hM ⊢
  intro q hq
  have := hM q hq
  rw [Bool.or_eq_true] at this ⊢
  rcases this with e | e
  · exact Or.inl e
  · refine Or.inr ?_
    have e : q.2.1 < s.2.2.1.length := by simpa [Nat.blt_eq] using e
    simpa [Nat.blt_eq] using Nat.lt_of_lt_of_le e h
section TX
variable {g : jG} {D : va_G} {G0 : tG} {w0 : jW} {ρ0 : Nat → Value} {l : Launch} {B : Nat} {H0 : Heap} {y0 : MethodName} {I : tI} {Is : List tI} {md : tMD}
/-- a head's goal -/
def tHg (g : jG) (D : va_G) (I : tI) (G0 : tG) (w0 : jW) (ρ0 : Nat → Value) (hd : Nat × tS × tM) (N : Nat) : Prop := ∀ G w ρ, tPP D (Ipu I) (IK I) G0 w0 G w → tSat D G w ρ hd.2.1 → (∀ i, i < (IE I).2.1.length → ρ i = ρ0 i) → menc 8 (hd.2.2.map (mval ρ)) < N → JJ g w hd.1 (cL ρ hd.2.1) (cS ρ hd.2.1)
theorem tfix_ok {n : Nat} {m : List Nat} (h : tfix n m = true) : ∀ i, i < n → mg m i = i := fun i hi => by
  have := List.all_eq_true.mp h i (List.mem_range.mpr hi)
  simpa using this
theorem tedge0_ok {M : tM} {hd : Nat × tS × tM} {s : tS} {G : tG} {w : jW} {ρ : Nat → Value} (hH : tHg g D I G0 w0 ρ0 hd (menc 8 (M.map (mval ρ)))) (hP : tPP D (Ipu I) (IK I) G0 w0 G w) (h : tSat D G w ρ s) (ha : ∀ i, i < (IE I).2.1.length → ρ i = ρ0 i) (hc : tedge0 (IE I).2.1.length M hd s = true) : JJ g w hd.1 (cL ρ s) (cS ρ s) := by
  unfold tedge0 at hc
  rw [Bool.and_eq_true, Bool.and_eq_true] at hc
  obtain ⟨h1, h2, h3⟩ := hc
  obtain ⟨c1, c2, c3⟩ := tchk_ok h h1
  have hm := tfix_ok h2
  have hlt := tmlt_ok h 8 M hd.2.2 h3
  have kk := hH G w (fun i => ρ (mg (tfindm hd.2.1 s (tid (IE I).2.1.length)) i)) hP c1 (fun i hi => by rw [hm i hi]; exact ha i hi) hlt
  rw [c2] at kk
  exact JJ.loc _ c3 kk
theorem tedge_ok {M : tM} {hd : Nat × tS × tM} {s : tS} {G : tG} {w : jW} {ρ : Nat → Value} (hM : tMok s M = true) (hn : (IE I).2.1.length ≤ s.2.2.1.length) (hH : tHg g D I G0 w0 ρ0 hd (menc 8 (M.map (mval ρ)))) (hP : tPP D (Ipu I) (IK I) G0 w0 G w) (h : tSat D G w ρ s) (ha : ∀ i, i < (IE I).2.1.length → ρ i = ρ0 i) (hc : tedge (IE I).2.1.length M hd s = true) : JJ g w hd.1 (cL ρ s) (cS ρ s) := by
  obtain ⟨ρ', a1, a2, a3, a4⟩ := tpre_ok hP.1.1 hd.2.1.2.2.2 s ρ h
  have hmv := mval_agree hM a1
  rw [← a3, ← a4]
  exact tedge0_ok (M := M) (ρ0 := ρ0) (by rw [hmv]; exact hH) hP a2 (fun i hi => (a1 i (Nat.lt_of_lt_of_le hi hn)).trans (ha i hi)) hc
theorem tpost_ok {s : tS} {G : tG} {w : jW} {ρ : Nat → Value} (hP : tPP D (Ipu I) (IK I) G0 w0 G w) (h : tSat D G w ρ s) (ha : ∀ i, i < (IE I).2.1.length → ρ i = ρ0 i) (hc : tpost I s = true) {v : Option Value} (hv : v.toList = cS ρ s) : tEnd D I G0 w0 ρ0 v w := by
  unfold tpost at hc
  rw [List.any_eq_true] at hc
  obtain ⟨Q, hQ, hb⟩ := hc
  rw [Bool.and_eq_true] at hb
  have h2 : tSat D G w ρ ([], s.2.1, s.2.2.1, s.2.2.2) := h.re [] s.2.1 (fun q hq => by cases hq) h.2.1
  obtain ⟨c1, c2, -⟩ := tchk_ok h2 hb.1
  have hm := tfix_ok hb.2
  exact ⟨G, hP.1.1, hP.1.2.1, hP.1.2.2, hP.2.1, hP.2.2, Q, hQ, _, fun i hi => by rw [hm i hi]; exact ha i hi, c1, by rw [c2]; exact hv⟩
theorem tty1_ok {s : tS} {t : vT} {G : tG} {w : jW} {ρ : Nat → Value} (h : tSat D G w ρ s) (ht : tty1 s = some t) : ∃ x, s.2.1 = [x] ∧ vok G t (ρ x) ∧ cS ρ s = [ρ x] := by
  unfold tty1 at ht
  split at ht
  · rename_i x hs
    exact ⟨x, hs, h.2.2.2.1 _ _ ht, by show s.2.1.map ρ = _; rw [hs]; rfl⟩
  · cases ht
theorem tret_ok {cc : ByteArray} {nL pc : Nat} {own : String} {rm : Room} {s : tS} {G : tG} {w : jW} {ρ : Nat → Value} {i : Instr} {len : Nat} (C : jX g cc nL own D) (Rm : jRm g w0.2.1 w0.2.2 rm) (E : jEnd g (tEnd D I G0 w0 ρ0) (KC - w0.2.1) (KS - w0.2.2) (Ir I)) (hle0 : w0.2.1 ≤ KC ∧ w0.2.2 ≤ KS) (hd : decode cc pc = .ok (i, len)) (hP : tPP D (Ipu I) (IK I) G0 w0 G w) (h : tSat D G w ρ s) (ha : ∀ i, i < (IE I).2.1.length → ρ i = ρ0 i) (hc : tret I i len s = true) : JJ g w pc (cL ρ s) (cS ρ s) := by
  unfold tret at hc
  rw [Bool.and_eq_true, Bool.and_eq_true] at hc
  obtain ⟨⟨h1, h2⟩, h3⟩ := hc
  have e1 : len = 1 := by simpa using h1
  subst e1
  have hle := hP.1.2.1.le
  have b1 : w.2.1 ≤ w0.2.1 + (KC - w0.2.1) := by omega
  have b2 : w.2.2 ≤ w0.2.2 + (KS - w0.2.2) := by omega
  cases i with
  | ireturn =>
    have h3 : (match Ir I, tty1 s with
      | some .int, some t => tint t
      | some .boolean, some t => tfit .boolean t
      | _, _ => false) = true := h3
    split at h3
    · rename_i t e1 e2
      obtain ⟨x, hs, hv, hcs⟩ := tty1_ok h e2
      obtain ⟨z, hz, -⟩ := vok_int h3 hv
      have hp := tpost_ok (ρ0 := ρ0) hP h ha h2 (v := some (ρ x)) (by rw [hcs]; rfl)
      rw [hcs, hz]
      rw [e1] at E
      rw [hz] at hp
      exact j_iret C Rm E hd hp b1 b2
    · rename_i t e1 e2
      obtain ⟨x, hs, hv, hcs⟩ := tty1_ok h e2
      obtain ⟨n1, -⟩ := tfit_ok h3 hv
      have ht : tint t = true := by
        have h3 : (tint t && (ile 0 t.2.1 && ile t.2.2 1)) = true := h3
        rw [Bool.and_eq_true] at h3
        exact h3.1
      obtain ⟨z, hz, -⟩ := vok_int ht hv
      have hp := tpost_ok (ρ0 := ρ0) hP h ha h2 (v := some (ρ x)) (by rw [hcs]; rfl)
      rw [hcs, hz]
      rw [e1] at E
      rw [hz] at hp n1
      exact j_zret C Rm E n1 hd hp b1 b2
    · cases h3
  | lreturn =>
    have h3 : (match Ir I, tty1 s with
      | some .long, some t => tlng t
      | _, _ => false) = true := h3
    split at h3
    · rename_i t e1 e2
      obtain ⟨x, hs, hv, hcs⟩ := tty1_ok h e2
      obtain ⟨z, hz⟩ := vok_lng h3 hv
      have hp := tpost_ok (ρ0 := ρ0) hP h ha h2 (v := some (ρ x)) (by rw [hcs]; rfl)
      rw [hcs, hz]
      rw [e1] at E
      rw [hz] at hp
      exact j_lret C Rm E hd hp b1 b2
    · cases h3
  | areturn =>
    have h3 : (match Ir I, tty1 s with
      | some (.object _), some t => trf t
      | _, _ => false) = true := h3
    split at h3
    · rename_i cn t e1 e2
      obtain ⟨x, hs, hv, hcs⟩ := tty1_ok h e2
      have hp := tpost_ok (ρ0 := ρ0) hP h ha h2 (v := some (ρ x)) (by rw [hcs]; rfl)
      rw [hcs]
      rw [e1] at E
      exact j_aret C Rm E (by rcases vok_rf h3 hv with q | ⟨r, q⟩; exact Or.inl q; exact Or.inr ⟨r, q⟩) hd hp b1 b2
    · cases h3
  | return_ =>
    have h3 : (match Ir I with
      | none => s.2.1.isEmpty
      | _ => false) = true := h3
    split at h3
    · rename_i e1
      have hs : s.2.1 = [] := by simpa using h3
      have hcs : cS ρ s = [] := by show s.2.1.map ρ = _; rw [hs]; rfl
      have hp := tpost_ok (ρ0 := ρ0) hP h ha h2 (v := none) (by rw [hcs]; rfl)
      rw [hcs]
      rw [e1] at E
      exact j_vret C Rm E hd hp b1 b2
    · cases h3
  | _ => cases h3
theorem texec_ok {rm : Room} {M : tM} (C : jX g (Icc I) (IL I) (Iy I).cls D) (Rm : jRm g w0.2.1 w0.2.2 rm) (hrm : rm = { frames := Ifr I, cells := KC - w0.2.1, slots := KS - w0.2.2, locals := Ilo I }) (Y : jY g l B H0 y0) (E : jEnd g (tEnd D I G0 w0 ρ0) (KC - w0.2.1) (KS - w0.2.2) (Ir I)) (hle0 : w0.2.1 ≤ KC ∧ w0.2.2 ≤ KS) (hIs : ∀ J ∈ Is, tCon l D B H0 J) (hik : ∀ q ∈ md.1, decode (Icc I) q.1 = .ok (q.2.1, q.2.2.1)) (hlk : lkOK (Iy I).cls md.2.1) (hcl : ∀ q ∈ md.2.2.1, callOK (Iy I).cls Is q) :
    ∀ (f pc : Nat) (s : tS) (G : tG) (w : jW) (ρ : Nat → Value), texec I Is md M f pc s = true → tPP D (Ipu I) (IK I) G0 w0 G w → tSat D G w ρ s → (∀ i, i < (IE I).2.1.length → ρ i = ρ0 i) → (IE I).2.1.length ≤ s.2.2.1.length → tMok s M = true → (∀ hd ∈ md.2.2.2, tHg g D I G0 w0 ρ0 hd (menc 8 (M.map (mval ρ)))) → JJ g w pc (cL ρ s) (cS ρ s) := by
  intro f
  induction f with
  | zero => intro pc s G w ρ hc; cases hc
  | succ f ih =>
    intro pc s G w ρ hc hP h ha hn hM hH
    unfold texec at hc
    split at hc
    · cases hc
    · rename_i q hq
      obtain ⟨hq1, hq2⟩ := tfnd hq
      have hpc : q.1 = pc := by simpa using hq2
      have hd := hik q hq1
      rw [hpc] at hd
      rw [Bool.or_eq_true] at hc
      rcases hc with hc | hc
      · exact tret_ok C Rm E hle0 hd hP h ha hc
      · split at hc
        · rename_i outs hst
          have hroom : rm.cells = KC - w0.2.1 ∧ rm.slots = KS - w0.2.2 ∧ w0.2.1 ≤ KC ∧ w0.2.2 ≤ KS := by rw [hrm]; exact ⟨rfl, rfl, hle0⟩
          have hst2 : tstep (Ipu I) (IK I) Is md (IL I) rm.frames rm.locals pc q.2.1 q.2.2.1 q.2.2.2 s = some outs := by rw [hrm]; exact hst
          refine tstep_ok C Rm Y hIs hlk hcl hd hP hroom h hst2 (fun o ho => ?_)
          intro G2 w2 ρ2 hP2 hag h2
          have hb := List.all_eq_true.mp hc o ho
          rw [Bool.and_eq_true] at hb
          have hlen := Nat.le_of_ble_eq_true hb.1
          have ha2 : ∀ i, i < (IE I).2.1.length → ρ2 i = ρ0 i := fun i hi => (hag i (Nat.lt_of_lt_of_le hi hn)).trans (ha i hi)
          have hmv := mval_agree hM hag
          have hb2 := hb.2
          split at hb2
          · rename_i hd2 hh
            obtain ⟨hh1, hh2⟩ := tfnd hh
            have e : hd2.1 = o.1 := by simpa using hh2
            rw [← e]
            refine tedge_ok (M := M) (ρ0 := ρ0) (tMok_mono hM hlen) (Nat.le_trans hn hlen) ?_ hP2 h2 ha2 hb2
            rw [hmv]
            exact hH hd2 hh1
          · refine ih o.1 o.2 G2 w2 ρ2 hb2 hP2 h2 ha2 (Nat.le_trans hn hlen) (tMok_mono hM hlen) ?_
            rw [hmv]
            exact hH
        · cases hc
end TX
theorem j_metF {D : va_G} {l : Launch} {B : Nat} {H0 : Heap} {w : jW} {cc : ByteArray} {mc ms : Nat} {post : Option Value → jW → Prop} {y : MethodName} {maxL : Nat} {ret : Option FieldType} {av : List Value} {fr lo : Nat} (hy : plainFor y = true) (hav : (lg_sl av).length ≤ maxL)
    (body : ∀ g : jG, jX g cc maxL y.cls D → jRm g w.2.1 w.2.2 { frames := fr, cells := mc, slots := ms, locals := lo } → jY g l B H0 y → jEnd g post mc ms ret → JJ g w 0 (lv_args 0 av) []) : jMet l D B H0 y cc maxL ret fr lo mc ms av w post := by
  refine va_MetF (cc := cc) (maxL := maxL) (ret := ret) hy rfl ?_
  intro p e s m args below meth c s₁ Bd hml hv
  obtain ⟨rfl, hH, hK, hSt⟩ := hv
  have hts := atoms_spec (ws := Cond.code y cc maxL ret :: jwd) Bd.pre
  have hl := lv_entry av (n := maxL) hav
  rw [lg_entry_eq]
  generalize (lg_sl av ++ List.replicate (maxL - (lg_sl av).length) Slot.unset).toArray = ls at hl ⊢
  have hfind : s.vm.findClass y.cls = some m.cls := findClass_of_methodNamed Bd.named
  have hnam : meth.name = y.name := (name_of_methodNamed Bd.named Bd.method).1
  have key := body (p, l, e, ({ frames := fr, cells := mc, slots := ms, locals := lo } : Room), s, m, av.toArray, below, meth, c, D, B, H0, w.2.1, w.2.2, maxL, MQ below (jQ D B H0 post) av.toArray s mc ms (fun q => B ≤ q), cc, y)
    ⟨⟨Bd.exec, Bd.bytes, hml, hfind, fun w9 h9 => hts w9 (List.mem_cons_of_mem _ h9), hK, hnam, Bd.notSynchronized, hSt, w.1, hH⟩, rfl, rfl, rfl, rfl⟩ ⟨rfl, rfl, rfl⟩ ⟨rfl, rfl, rfl, rfl⟩ ⟨Bd.returns, rfl⟩
  have k2 := key s.heap [] ls hH (Nat.le_refl _) (Nat.le_refl _) (fun q h => by cases h) hl
  have a1 : w.2.1 - w.2.1 = 0 := Nat.sub_self _
  have a2 : w.2.2 - w.2.2 = 0 := Nat.sub_self _
  simp only [jGp, jGl, jGe, jGR, jGs, jGm, jGa, jGb, jGt, jGc, jGk, jGn, jGQ, a1, a2] at k2
  exact k2
/-- what is owed by hand at a head -/
def tHX (l : Launch) (D : va_G) (B : Nat) (H0 : Heap) (I : tI) (md : tMD) (hd : Nat × tS × tM) : Prop := ∀ (g : jG) (G0 : tG) (w0 : jW) (ρ0 : Nat → Value), jX g (Icc I) (IL I) (Iy I).cls D → jRm g w0.2.1 w0.2.2 { frames := Ifr I, cells := KC - w0.2.1, slots := KS - w0.2.2, locals := Ilo I } → jY g l B H0 (Iy I) → w0.2.1 ≤ KC ∧ w0.2.2 ≤ KS → ∀ G w ρ, tPP D (Ipu I) (IK I) G0 w0 G w → tSat D G w ρ hd.2.1 → (∀ i, i < (IE I).2.1.length → ρ i = ρ0 i) → (∀ hd2 ∈ md.2.2.2, tHg g D I G0 w0 ρ0 hd2 (menc 8 (hd.2.2.map (mval ρ)))) → JJ g w hd.1 (cL ρ hd.2.1) (cS ρ hd.2.1)
/-- A METHOD'S CHECK PROVES ITS CONTRACT; at the heads of xs by hand -/
theorem tmet_okX {l : Launch} {D : va_G} {B : Nat} {H0 : Heap} {I : tI} {Is : List tI} {md : tMD} {fuel : Nat} (xs : List Nat) (hx : ∀ hd ∈ md.2.2.2, hd.1 ∈ xs → tHX l D B H0 I md hd) (hIs : ∀ J ∈ Is, tCon l D B H0 J) (hik : ∀ q ∈ md.1, decode (Icc I) q.1 = .ok (q.2.1, q.2.2.1)) (hlk : lkOK (Iy I).cls md.2.1) (hcl : ∀ q ∈ md.2.2.1, callOK (Iy I).cls Is q) (hy : plainFor (Iy I) = true) (hc : tcheckX xs Is md fuel I = true) : tCon l D B H0 I := by
  intro G w ρ hw hb hE
  unfold tcheckX at hc
  rw [Bool.and_eq_true, Bool.and_eq_true, Bool.and_eq_true, Bool.and_eq_true, Bool.and_eq_true, Bool.and_eq_true] at hc
  obtain ⟨⟨k1, k2, k3, k4, k5⟩, k6, k7⟩ := hc
  obtain ⟨w1, w2, w3⟩ := twf_ok k1
  have hrev : (IE I).2.1.reverse = List.range (IE I).2.1.length := by simpa using k3
  have hlt : ∀ i ∈ (IE I).2.1.reverse, i < (IE I).2.2.1.length := fun i hi => w2 i (List.mem_reverse.mp hi)
  have hle0 := hb.le
  have hk5 := Nat.le_of_ble_eq_true k5
  refine j_metF hy ?_ (fun g C Rm Y E => ?_)
  · refine Nat.le_trans (lgsl_len _) ?_
    rw [tsum_ok hE _ hlt]
    exact Nat.le_of_ble_eq_true k4
  · have hP0 : tPP D (Ipu I) (IK I) G w G w := ⟨⟨hw, hb, TRr.rfl'⟩, TRk.rfl', fun _ => ⟨rfl, rfl⟩⟩
    have hH : ∀ (N : Nat) (hd : Nat × tS × tM), hd ∈ md.2.2.2 → tHg g D I G w ρ hd N := by
      intro N
      induction N with
      | zero => intro hd _ G2 w2 ρ2 _ _ _ q; omega
      | succ N ih =>
        intro hd hhd G2 w2 ρ2 p1 p2 p3 p4
        have hb := List.all_eq_true.mp k7 hd hhd
        rw [Bool.and_eq_true, Bool.and_eq_true, Bool.and_eq_true] at hb
        obtain ⟨b1, b2, b3, b4⟩ := hb
        have hih : ∀ hd2 ∈ md.2.2.2, tHg g D I G w ρ hd2 (menc 8 (hd.2.2.map (mval ρ2))) := by
          intro hd2 h2 G3 w3 ρ3 q1 q2 q3 q4
          exact ih hd2 h2 G3 w3 ρ3 q1 q2 q3 (by omega)
        rw [Bool.or_eq_true] at b4
        rcases b4 with b4 | b4
        · exact hx hd hhd (List.elem_iff.mp b4) g G w ρ C Rm Y hle0 G2 w2 ρ2 p1 p2 p3 hih
        · exact texec_ok C Rm rfl Y E hle0 hIs hik hlk hcl fuel hd.1 hd.2.1 G2 w2 ρ2 b4 p1 p2 p3 (Nat.le_of_ble_eq_true b3) b2 hih
    have hS : tSat D G w ρ (tent I) := ⟨fun q hq => hlt _ (tlocs_lt _ _ q hq), (fun i hi => by cases hi), hE.2.2.1, hE.2.2.2.1, hE.2.2.2.2⟩
    have hloc : lv_args 0 (Iav I ρ) = cL ρ (tent I) := tlocs_ok hE _ 0 hlt
    rw [hloc]
    have hcs : ([] : List Value) = cS ρ (tent I) := rfl
    rw [hcs]
    split at k6
    · rename_i hd hh
      obtain ⟨hh1, hh2⟩ := tfnd hh
      have e : hd.1 = 0 := by simpa using hh2
      have := tedge_ok (s := tent I) (M := tM0) (ρ0 := ρ) (by rfl) hk5 (hH _ hd hh1) hP0 hS (fun _ _ => rfl) k6
      rw [e] at this
      exact this
    · exact texec_ok (M := tM0) C Rm rfl Y E hle0 hIs hik hlk hcl fuel 0 (tent I) G w ρ k6 hP0 hS (fun _ _ => rfl) hk5 (by rfl) (fun hd h => hH _ hd h)
theorem tmet_ok {l : Launch} {D : va_G} {B : Nat} {H0 : Heap} {I : tI} {Is : List tI} {md : tMD} {fuel : Nat} (hIs : ∀ J ∈ Is, tCon l D B H0 J) (hik : ∀ q ∈ md.1, decode (Icc I) q.1 = .ok (q.2.1, q.2.2.1)) (hlk : lkOK (Iy I).cls md.2.1) (hcl : ∀ q ∈ md.2.2.1, callOK (Iy I).cls Is q) (hy : plainFor (Iy I) = true) (hc : tcheck Is md fuel I = true) : tCon l D B H0 I := tmet_okX [] (fun hd _ h => absurd h List.not_mem_nil) hIs hik hlk hcl hy hc
