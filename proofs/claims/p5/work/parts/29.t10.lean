/-! THE T LAYER: a method's check, and what it proves (own work) -/
def tone (o : Option (Nat × tS)) : Option (List (Nat × tS)) := match o with
  | some x => some [x]
  | none => none
def tlen (a b : Nat) (o : Option (List (Nat × tS))) : Option (List (Nat × tS)) := match a == b with
  | true => o
  | false => none
def tnp (pu : Bool) (o : Option (List (Nat × tS))) : Option (List (Nat × tS)) := match pu with
  | true => none
  | false => o
def tinvV (pu : Bool) (K : List (Nat × Nat)) (Is : List tI) (md : tMD) (fr lo idx pc : Nat) (s : tS) : Option (List (Nat × tS)) := match md.2.2.1.find? (fun q => q.1 == idx && q.2.1 == 0) with
  | some q => (match Is[q.2.2.1]? with
    | some J => tcall true q.2.2.2 fr lo pc pu K J s
    | none => none)
  | none => none
def tinvC (nest pu : Bool) (K : List (Nat × Nat)) (Is : List tI) (md : tMD) (fr lo idx pc : Nat) (s : tS) : Option (List (Nat × tS)) := match md.2.2.1.find? (fun q => q.1 == idx && q.2.1 == (match nest with | true => 2 | false => 1)) with
  | some q => (match Is[q.2.2.1]? with
    | some J => tcall false q.2.2.2 fr lo pc pu K J s
    | none => none)
  | none => none
def tinvS (pu : Bool) (K : List (Nat × Nat)) (Is : List tI) (md : tMD) (fr lo idx pc : Nat) (s : tS) : Option (List (Nat × tS)) := match tone (tmmx md.2.1 fr lo idx pc s) with
  | some x => some x
  | none => (match tinvC false pu K Is md fr lo idx pc s with
    | some x => some x
    | none => tinvC true pu K Is md fr lo idx pc s)
def tplain (nL pc : Nat) (i : Instr) (len : Nat) (v : Value) (s : tS) : Option (List (Nat × tS)) := match len == slen i && scst pc i v with
  | true => tone (tp nL pc i v s)
  | false => none
def tstep (pu : Bool) (K : List (Nat × Nat)) (Is : List tI) (md : tMD) (nL fr lo pc : Nat) (i : Instr) (len : Nat) (v : Value) (s : tS) : Option (List (Nat × tS)) := match i with
  | .getfield idx => tlen len 3 (tone (tget md.2.1 idx pc s))
  | .putfield idx => tlen len 3 (tnp pu (tone (tput md.2.1 K idx pc s)))
  | .iaload => tlen len 1 (tone (taload 0 pc s))
  | .laload => tlen len 1 (tone (taload 1 pc s))
  | .baload => tlen len 1 (tone (taload 2 pc s))
  | .aaload => tlen len 1 (tone (taald pc s))
  | .iastore => tlen len 1 (tnp pu (tone (tastore K 0 pc s)))
  | .lastore => tlen len 1 (tnp pu (tone (tastore K 1 pc s)))
  | .arraylength => tlen len 1 (tone (talen pc s))
  | .ldc idx => tlen len 2 (tone (tldc md.2.1 2 idx pc s))
  | .ldc_w idx => tlen len 3 (tone (tldc md.2.1 3 idx pc s))
  | .ldc2_w idx => tlen len 3 (tone (tldc2 md.2.1 idx pc s))
  | .idiv => tlen len 1 (tone (tdiv pc s))
  | .irem => tlen len 1 (tone (tdiv pc s))
  | .ldiv => tlen len 1 (tone (tdivL pc s))
  | .lrem => tlen len 1 (tone (tdivL pc s))
  | .lcmp => tlen len 1 (tone (tlcmp pc s))
  | .ifCond .eq off => tlen len 3 (tbr1 0 pc off s)
  | .ifCond .ne off => tlen len 3 (tbr1 1 pc off s)
  | .ifCond .lt off => tlen len 3 (tbr1 2 pc off s)
  | .ifCond .ge off => tlen len 3 (tbr1 3 pc off s)
  | .ifCond .gt off => tlen len 3 (tbr1 4 pc off s)
  | .ifCond .le off => tlen len 3 (tbr1 5 pc off s)
  | .if_icmp .eq off => tlen len 3 (tbr2 0 pc off s)
  | .if_icmp .ne off => tlen len 3 (tbr2 1 pc off s)
  | .if_icmp .lt off => tlen len 3 (tbr2 2 pc off s)
  | .if_icmp .ge off => tlen len 3 (tbr2 3 pc off s)
  | .if_icmp .gt off => tlen len 3 (tbr2 4 pc off s)
  | .if_icmp .le off => tlen len 3 (tbr2 5 pc off s)
  | .ifnull off => tlen len 3 (tnul true pc off s)
  | .ifnonnull off => tlen len 3 (tnul false pc off s)
  | .tableswitch d lo9 hi9 offs => ttab pc d lo9 hi9 offs s
  | .lookupswitch d ps => tluk pc d ps s
  | .invokevirtual idx => tlen len 3 (tinvV pu K Is md fr lo idx pc s)
  | .invokestatic idx => tlen len 3 (tinvS pu K Is md fr lo idx pc s)
  | _ => tplain nL pc i len v s
def callOK (own : String) (Is : List tI) (q : Nat × Nat × Nat × Nat) : Prop := ∀ J, Is[q.2.2.1]? = some J → match q.2.1 with
  | 0 => jcV own q.1 (Iy J) (Icc J) (IL J) (Ir J) ((IE J).2.1.length - 1) ∧ ∃ r, vwCl[q.2.2.2]? = some r ∧ r.1 = (Iy J).cls
  | 1 => jcS own q.1 (Iy J) (Icc J) (IL J) (Ir J) (IE J).2.1.length
  | 2 => jcSn own q.1 (Iy J) (Icc J) (IL J) (Ir J) (IE J).2.1.length
  | _ => True
theorem tone_ok {o : Option (Nat × tS)} {outs : List (Nat × tS)} (h : tone o = some outs) : ∃ x, o = some x ∧ outs = [x] := by
  unfold tone at h
  split at h
  · cases h; exact ⟨_, rfl, rfl⟩
  · cases h
theorem tlen_ok {a b : Nat} {o : Option (List (Nat × tS))} {outs : List (Nat × tS)} (h : tlen a b o = some outs) : a = b ∧ o = some outs := by
  unfold tlen at h
  split at h
  · rename_i e
    exact ⟨by simpa using e, h⟩
  · cases h
theorem tnp_ok {pu : Bool} {o : Option (List (Nat × tS))} {outs : List (Nat × tS)} (h : tnp pu o = some outs) : pu = false ∧ o = some outs := by
  unfold tnp at h
  split at h
  · cases h
  · exact ⟨rfl, h⟩
section TS
variable {g : jG} {cc : ByteArray} {nL pc : Nat} {own : String} {D : va_G} {G0 G : tG} {w0 w : jW} {ρ : Nat → Value} {s : tS} {outs : List (Nat × tS)} {lk : tLK} {k0 n0 : Nat} {rm : Room} {l : Launch} {B : Nat} {H0 : Heap} {y0 : MethodName} {pu9 : Bool} {K : List (Nat × Nat)}
/-- the relation to the entry -/
def tPP (D : va_G) (pu9 : Bool) (K : List (Nat × Nat)) (G0 : tG) (w0 : jW) (G : tG) (w : jW) : Prop := PW D G0 w0 G w ∧ TRk K G0 w0 w ∧ (pu9 = true → G = G0 ∧ w = w0)
theorem TRk.trans {K K9 : List (Nat × Nat)} {w9 : jW} (h : TRk K G0 w0 w) (hT : TRr G0 w0 G w) (hw : WOK D G w) (h9 : TRk K9 G w w9) (hs : ∀ q ∈ K, kel K9 q.1 q.2 = true) : TRk K G0 w0 w9 := by
  have hsub : ∀ c k, kel K c k = true → kel K9 c k = true := fun c k q3 => by
    unfold kel at q3
    rw [List.any_eq_true] at q3
    obtain ⟨p, p1, p2⟩ := q3
    have p3 : p.1 = c ∧ p.2 = k := by simpa using p2
    have := hs p p1
    rw [p3.1, p3.2] at this
    exact this
  refine ⟨fun a τ c fs V V9 k q1 q2 q3 q4 q5 => ?_, fun a τ q1 q2 q3 => (h9.2 a τ (hT.1 a τ q1) q2 (hsub _ _ q3)).trans (h.2 a τ q1 q2 q3)⟩
  have hG := hT.1 a τ q1
  obtain ⟨V1, e1, -⟩ := (tcell_O q2).mp (hw a τ hG)
  exact (h9.1 a τ c fs V1 V9 k hG q2 (hsub _ _ q3) e1 q5).trans (h.1 a τ c fs V V1 k q1 q2 q3 q4 e1)
theorem TRk.put {K : List (Nat × Nat)} {a τ c k : Nat} {fs : List vT} {V : Nat → Value} {v : Value} (h : TRk K G0 w0 w) (hT : TRr G0 w0 G w) (hG : G a = some τ) (ho : tyO τ = some (c, fs)) (hV : w.1 a = some (.inr (c, V))) (hn : kel K c k = false) : TRk K G0 w0 (va_up w.1 a (some (.inr (c, updV V k v))), w.2) := by
  refine ⟨fun b τ' c' fs' V0 V9 k' q1 q2 q3 q4 q5 => ?_, fun b τ' q1 q2 q3 => ?_⟩
  case refine_2 =>
    have e : b ≠ a := by
      intro e
      rw [e] at q1
      have e1 := hT.1 _ _ q1
      rw [hG] at e1
      have e1 : τ = τ' := Option.some.inj e1
      rw [← e1, ho] at q2
      cases q2
    exact (va_up_ne _ _ e).trans (h.2 b τ' q1 q2 q3)
  by_cases e : b = a
  · rw [e] at q1 q4 q5
    have e1 := hT.1 _ _ q1
    rw [hG] at e1
    have e1 : τ = τ' := Option.some.inj e1
    rw [← e1, ho] at q2
    have e2 : c = c' := congrArg Prod.fst (Option.some.inj q2)
    have q5 : va_up w.1 a (some (.inr (c, updV V k v))) a = some (.inr (c', V9)) := q5
    rw [va_up_self] at q5
    have e3 : updV V k v = V9 := congrArg Prod.snd (Sum.inr.inj (Option.some.inj q5))
    have hne : k' ≠ k := by
      intro e4
      rw [← e2, e4, hn] at q3
      cases q3
    rw [← e3]
    show updV V k v k' = _
    simp only [updV, if_neg hne]
    rw [← e2] at q3 q4
    exact h.1 a τ c fs V0 V k' (by rw [e1]; exact q1) ho q3 q4 hV
  · have q5 : va_up w.1 a (some (.inr (c, updV V k v))) b = some (.inr (c', V9)) := q5
    rw [va_up_ne _ _ e] at q5
    exact h.1 b τ' c' fs' V0 V9 k' q1 q2 q3 q4 q5
theorem TRk.arr {K : List (Nat × Nat)} {a τ : Nat} {c1 : jEl} (h : TRk K G0 w0 w) (hT : TRr G0 w0 G w) (hG : G a = some τ) (ho : tyO τ = none) (hn : kel K (1000 + τ) 0 = false) : TRk K G0 w0 (va_up w.1 a (some c1), w.2) := by
  refine ⟨fun b τ' c' fs' V0 V9 k' q1 q2 q3 q4 q5 => ?_, fun b τ' q1 q2 q3 => ?_⟩
  case refine_2 =>
    have e : b ≠ a := by
      intro e
      rw [e] at q1
      have e1 := hT.1 _ _ q1
      rw [hG] at e1
      have e1 : τ = τ' := Option.some.inj e1
      rw [← e1, hn] at q3
      cases q3
    exact (va_up_ne _ _ e).trans (h.2 b τ' q1 q2 q3)
  have e : b ≠ a := by
    intro e
    rw [e] at q1
    have e1 := hT.1 _ _ q1
    rw [hG] at e1
    have e1 : τ = τ' := Option.some.inj e1
    rw [← e1, ho] at q2
    cases q2
  have q5 : va_up w.1 a (some c1) b = some (.inr (c', V9)) := q5
  rw [va_up_ne _ _ e] at q5
  exact h.1 b τ' c' fs' V0 V9 k' q1 q2 q3 q4 q5
theorem tinvC_ok {nest : Bool} {Is : List tI} {md : tMD} {idx : Nat} (C : jX g cc nL own D) (Rm : jRm g k0 n0 rm) (Y : jY g l B H0 y0) (hIs : ∀ J ∈ Is, tCon l D B H0 J) (hcl : ∀ q ∈ md.2.2.1, callOK own Is q) (hd : decode cc pc = .ok (.invokestatic idx, 3)) (hP : tPP D pu9 K G0 w0 G w) (hroom : rm.cells = KC - k0 ∧ rm.slots = KS - n0 ∧ k0 ≤ KC ∧ n0 ≤ KS) (h : tSat D G w ρ s) (ho : tinvC nest pu9 K Is md rm.frames rm.locals idx pc s = some outs) (hk : ∀ o ∈ outs, tOut g (tPP D pu9 K G0 w0) D s.2.2.1.length ρ o) : JJ g w pc (cL ρ s) (cS ρ s) := by
  unfold tinvC at ho
  split at ho
  · rename_i q hq
    obtain ⟨hq1, hq2⟩ := tfnd hq
    obtain ⟨qi, qk, qj, qc⟩ := q
    rw [Bool.and_eq_true] at hq2
    have e1 : qi = idx := by simpa using hq2.1
    split at ho
    · rename_i J hJ
      have hc := hcl _ hq1 J hJ
      refine tcallS_ok (nest := nest) C Rm Y (hIs J (List.mem_of_getElem? hJ)) ?_ hd hP.1.1 hP.1.2.1 hroom h (fun G9 w9 a1 a2 a3 K9 aK bK a4 => ⟨⟨a1, a2, hP.1.2.2.trans hP.1.1 a3⟩, TRk.trans hP.2.1 hP.1.2.2 hP.1.1 aK bK, fun e => ?_⟩) ho hk
      · cases nest with
        | true =>
          have e2 : qk = 2 := by simpa using hq2.2
          subst e2
          subst e1
          exact hc
        | false =>
          have e2 : qk = 1 := by simpa using hq2.2
          subst e2
          subst e1
          exact hc
      · obtain ⟨b1, b2⟩ := a4 e
        obtain ⟨c1, c2⟩ := hP.2.2 e
        exact ⟨b1.trans c1, b2.trans c2⟩
    · cases ho
  · cases ho
theorem tinvV_ok {Is : List tI} {md : tMD} {idx : Nat} (C : jX g cc nL own D) (Rm : jRm g k0 n0 rm) (Y : jY g l B H0 y0) (hIs : ∀ J ∈ Is, tCon l D B H0 J) (hcl : ∀ q ∈ md.2.2.1, callOK own Is q) (hd : decode cc pc = .ok (.invokevirtual idx, 3)) (hP : tPP D pu9 K G0 w0 G w) (hroom : rm.cells = KC - k0 ∧ rm.slots = KS - n0 ∧ k0 ≤ KC ∧ n0 ≤ KS) (h : tSat D G w ρ s) (ho : tinvV pu9 K Is md rm.frames rm.locals idx pc s = some outs) (hk : ∀ o ∈ outs, tOut g (tPP D pu9 K G0 w0) D s.2.2.1.length ρ o) : JJ g w pc (cL ρ s) (cS ρ s) := by
  unfold tinvV at ho
  split at ho
  · rename_i q hq
    obtain ⟨hq1, hq2⟩ := tfnd hq
    obtain ⟨qi, qk, qj, qc⟩ := q
    rw [Bool.and_eq_true] at hq2
    have e1 : qi = idx := by simpa using hq2.1
    have e2 : qk = 0 := by simpa using hq2.2
    subst e2
    subst e1
    split at ho
    · rename_i J hJ
      obtain ⟨hc, r, hr1, hr2⟩ := hcl _ hq1 J hJ
      refine tcallV_ok C Rm Y (hIs J (List.mem_of_getElem? hJ)) hc hr1 hr2 hd hP.1.1 hP.1.2.1 hroom h (fun G9 w9 a1 a2 a3 K9 aK bK a4 => ⟨⟨a1, a2, hP.1.2.2.trans hP.1.1 a3⟩, TRk.trans hP.2.1 hP.1.2.2 hP.1.1 aK bK, fun e => ?_⟩) ho hk
      obtain ⟨b1, b2⟩ := a4 e
      obtain ⟨c1, c2⟩ := hP.2.2 e
      exact ⟨b1.trans c1, b2.trans c2⟩
    · cases ho
  · cases ho
theorem tplain_ok {i : Instr} {len : Nat} {v : Value} (C : jX g cc nL own D) (hd : decode cc pc = .ok (i, len)) (hP : tPP D pu9 K G0 w0 G w) (h : tSat D G w ρ s) (ho : tplain nL pc i len v s = some outs) (hk : ∀ o ∈ outs, tOut g (tPP D pu9 K G0 w0) D s.2.2.1.length ρ o) : JJ g w pc (cL ρ s) (cS ρ s) := by
  unfold tplain at ho
  split at ho
  · rename_i hb
    rw [Bool.and_eq_true] at hb
    have e : len = slen i := by simpa using hb.1
    obtain ⟨x, hx, rfl⟩ := tone_ok ho
    have hr := tp_ok h hx
    exact hr.out (hk x List.mem_cons_self) hP (fun pc' L' st' hR kk => sx_ok C.1 C.2.2.1 (by rw [C.2.1, ← e]; exact hd) hb.2 hR kk)
  · cases ho
theorem tstep_ok {Is : List tI} {md : tMD} {i : Instr} {len : Nat} {v : Value} (C : jX g cc nL own D) (Rm : jRm g k0 n0 rm) (Y : jY g l B H0 y0) (hIs : ∀ J ∈ Is, tCon l D B H0 J) (hlk : lkOK own md.2.1) (hcl : ∀ q ∈ md.2.2.1, callOK own Is q) (hd : decode cc pc = .ok (i, len)) (hP : tPP D pu9 K G0 w0 G w) (hroom : rm.cells = KC - k0 ∧ rm.slots = KS - n0 ∧ k0 ≤ KC ∧ n0 ≤ KS) (h : tSat D G w ρ s) (ho : tstep pu9 K Is md nL rm.frames rm.locals pc i len v s = some outs) (hk : ∀ o ∈ outs, tOut g (tPP D pu9 K G0 w0) D s.2.2.1.length ρ o) : JJ g w pc (cL ρ s) (cS ρ s) := by
  have hw := hP.1.1
  have hle := hP.1.2.1.le
  have one : ∀ {o : Nat × tS}, outs = [o] → tOut g (tPP D pu9 K G0 w0) D s.2.2.1.length ρ o := fun e => hk _ (by rw [e]; exact List.mem_cons_self)
  cases i with
  | getfield idx =>
    obtain ⟨rfl, h1⟩ := tlen_ok ho
    obtain ⟨x, h2, h3⟩ := tone_ok h1
    exact tget_ok C hlk hd hP hw h h2 (one h3)
  | putfield idx =>
    obtain ⟨rfl, h1⟩ := tlen_ok ho
    obtain ⟨e, h1⟩ := tnp_ok h1
    obtain ⟨x, h2, h3⟩ := tone_ok h1
    exact tput_ok C hlk hd hP hw (fun q1 q2 q3 q4 q5 q6 q7 => ⟨hP.1.put q1 q2 q3 q4 q5 q6, TRk.put hP.2.1 hP.1.2.2 q1 q2 q3 q7, fun q => by rw [q] at e; cases e⟩) h h2 (one h3)
  | iaload =>
    obtain ⟨rfl, h1⟩ := tlen_ok ho
    obtain ⟨x, h2, h3⟩ := tone_ok h1
    exact tiald_ok C hd hP hw h h2 (one h3)
  | laload =>
    obtain ⟨rfl, h1⟩ := tlen_ok ho
    obtain ⟨x, h2, h3⟩ := tone_ok h1
    exact tlald_ok C hd hP hw h h2 (one h3)
  | baload =>
    obtain ⟨rfl, h1⟩ := tlen_ok ho
    obtain ⟨x, h2, h3⟩ := tone_ok h1
    exact tzald_ok C hd hP hw h h2 (one h3)
  | aaload =>
    obtain ⟨rfl, h1⟩ := tlen_ok ho
    obtain ⟨x, h2, h3⟩ := tone_ok h1
    exact taald_ok C hd hP hw h h2 (one h3)
  | iastore =>
    obtain ⟨rfl, h1⟩ := tlen_ok ho
    obtain ⟨e, h1⟩ := tnp_ok h1
    obtain ⟨x, h2, h3⟩ := tone_ok h1
    exact tiast_ok C hd hw (fun q1 q2 q3 q4 q5 q6 q7 q8 => ⟨hP.1.arr q1 q2 q3 q4 q5 q6 q7, TRk.arr hP.2.1 hP.1.2.2 q1 q2 q8, fun q => by rw [q] at e; cases e⟩) h h2 (one h3)
  | lastore =>
    obtain ⟨rfl, h1⟩ := tlen_ok ho
    obtain ⟨e, h1⟩ := tnp_ok h1
    obtain ⟨x, h2, h3⟩ := tone_ok h1
    exact tlast_ok C hd hw (fun q1 q2 q3 q4 q5 q6 q7 q8 => ⟨hP.1.arr q1 q2 q3 q4 q5 q6 q7, TRk.arr hP.2.1 hP.1.2.2 q1 q2 q8, fun q => by rw [q] at e; cases e⟩) h h2 (one h3)
  | arraylength =>
    obtain ⟨rfl, h1⟩ := tlen_ok ho
    obtain ⟨x, h2, h3⟩ := tone_ok h1
    exact talen_ok C hd hP hw h h2 (one h3)
  | ldc idx =>
    obtain ⟨rfl, h1⟩ := tlen_ok ho
    obtain ⟨x, h2, h3⟩ := tone_ok h1
    exact tldc_ok C hlk hd hP h h2 (one h3)
  | ldc_w idx =>
    obtain ⟨rfl, h1⟩ := tlen_ok ho
    obtain ⟨x, h2, h3⟩ := tone_ok h1
    exact tldcw_ok C hlk hd hP h h2 (one h3)
  | ldc2_w idx =>
    obtain ⟨rfl, h1⟩ := tlen_ok ho
    obtain ⟨x, h2, h3⟩ := tone_ok h1
    exact tldc2_ok C hlk hd hP h h2 (one h3)
  | idiv =>
    obtain ⟨rfl, h1⟩ := tlen_ok ho
    obtain ⟨x, h2, h3⟩ := tone_ok h1
    exact tidiv_ok C hd hP h h2 (one h3)
  | irem =>
    obtain ⟨rfl, h1⟩ := tlen_ok ho
    obtain ⟨x, h2, h3⟩ := tone_ok h1
    exact tirem_ok C hd hP h h2 (one h3)
  | ldiv =>
    obtain ⟨rfl, h1⟩ := tlen_ok ho
    obtain ⟨x, h2, h3⟩ := tone_ok h1
    exact tldiv_ok C hd hP h h2 (one h3)
  | lrem =>
    obtain ⟨rfl, h1⟩ := tlen_ok ho
    obtain ⟨x, h2, h3⟩ := tone_ok h1
    exact tlrem_ok C hd hP h h2 (one h3)
  | lcmp =>
    obtain ⟨rfl, h1⟩ := tlen_ok ho
    obtain ⟨x, h2, h3⟩ := tone_ok h1
    exact tlcmp_ok C hd hP h h2 (one h3)
  | ifCond c off =>
    cases c with
    | eq => obtain ⟨rfl, h1⟩ := tlen_ok ho; exact tbr1_ok hP h h1 hk (fun tgt v9 st e a b => j_if_eq C hd e a b)
    | ne => obtain ⟨rfl, h1⟩ := tlen_ok ho; exact tbr1_ok hP h h1 hk (fun tgt v9 st e a b => j_if_ne C hd e a b)
    | lt => obtain ⟨rfl, h1⟩ := tlen_ok ho; exact tbr1_ok hP h h1 hk (fun tgt v9 st e a b => j_if_lt C hd e a (fun q => b (nlt_le q)))
    | ge => obtain ⟨rfl, h1⟩ := tlen_ok ho; exact tbr1_ok hP h h1 hk (fun tgt v9 st e a b => j_if_ge C hd e a (fun q => b (nle_lt q)))
    | gt => obtain ⟨rfl, h1⟩ := tlen_ok ho; exact tbr1_ok hP h h1 hk (fun tgt v9 st e a b => j_if_gt C hd e a (fun q => b (nlt_le q)))
    | le => obtain ⟨rfl, h1⟩ := tlen_ok ho; exact tbr1_ok hP h h1 hk (fun tgt v9 st e a b => j_if_le C hd e a (fun q => b (nle_lt q)))
  | if_icmp c off =>
    cases c with
    | eq => obtain ⟨rfl, h1⟩ := tlen_ok ho; exact tbr2_ok hP h h1 hk (fun tgt v9 z9 st e a b => j_icmp_eq C hd e a b)
    | ne => obtain ⟨rfl, h1⟩ := tlen_ok ho; exact tbr2_ok hP h h1 hk (fun tgt v9 z9 st e a b => j_icmp_ne C hd e a b)
    | lt => obtain ⟨rfl, h1⟩ := tlen_ok ho; exact tbr2_ok hP h h1 hk (fun tgt v9 z9 st e a b => j_icmp_lt C hd e a (fun q => b (nlt_le q)))
    | ge => obtain ⟨rfl, h1⟩ := tlen_ok ho; exact tbr2_ok hP h h1 hk (fun tgt v9 z9 st e a b => j_icmp_ge C hd e a (fun q => b (nle_lt q)))
    | gt => obtain ⟨rfl, h1⟩ := tlen_ok ho; exact tbr2_ok hP h h1 hk (fun tgt v9 z9 st e a b => j_icmp_gt C hd e a (fun q => b (nlt_le q)))
    | le => obtain ⟨rfl, h1⟩ := tlen_ok ho; exact tbr2_ok hP h h1 hk (fun tgt v9 z9 st e a b => j_icmp_le C hd e a (fun q => b (nle_lt q)))
  | ifnull off =>
    obtain ⟨rfl, h1⟩ := tlen_ok ho
    exact tnul_ok hP h h1 hk (fun tgt st e => ⟨fun a kk => j_ifnull C hd kk, fun kk => j_ifnullN C hd e kk⟩)
  | ifnonnull off =>
    obtain ⟨rfl, h1⟩ := tlen_ok ho
    exact tnul_ok hP h h1 hk (fun tgt st e => ⟨fun a kk => j_ifnonnull C hd e kk, fun kk => j_ifnonnullN C hd kk⟩)
  | tableswitch d lo9 hi9 offs => exact ttab_ok C hd hP h ho hk
  | lookupswitch d ps => exact tluk_ok C hd hP h ho hk
  | invokevirtual idx =>
    obtain ⟨rfl, h1⟩ := tlen_ok ho
    exact tinvV_ok C Rm Y hIs hcl hd hP hroom h h1 hk
  | invokestatic idx =>
    obtain ⟨rfl, h1⟩ := tlen_ok ho
    unfold tinvS at h1
    split at h1
    · rename_i x hx
      cases h1
      obtain ⟨y, h2, h3⟩ := tone_ok hx
      exact tmmx_ok C Rm hlk hd hP (by omega) (by omega) h h2 (one h3)
    · split at h1
      · rename_i x hx
        cases h1
        exact tinvC_ok C Rm Y hIs hcl hd hP hroom h hx hk
      · exact tinvC_ok C Rm Y hIs hcl hd hP hroom h h1 hk
  | _ => exact tplain_ok C hd hP h ho hk
end TS
