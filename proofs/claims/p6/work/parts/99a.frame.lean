/-! the law: what holds from call to call (own work; the head of the claim out of the skeleton) -/
/-! THE CLAIM OUT OF ONE WALK OF THE LAW'S BODY. Your part is whole_start (and what it stands on); all else here is the same for every law, but numbers. -/
def R_law : String := "ChanceStepsLaw"
def lw_P (b : Addr) (xs : List Int32) (args : Array Value) (s : State) : Prop := args = #[.ref b] ∧ s.IntsAt b xs ∧ xs.length ≤ 3584 ∧ (Jvm.Cond.and given_1 narrow_1).before args s = true
def lw_Q (_ : Array Value) (s : State) (o : Outcome) (t : State) : Prop := o = .returned (some (.int 1)) ∧ Framed s o t [] 600000 7302250
def lw_Z (below : List Frame) (a : Array Value) (s : State) : State → Prop := fun t => ∃ o, t.status = .running ∧ Ended t below o ∧ lw_Q a s o t
/-- the law's own end, with 1 on the stack, nothing written that was there before, its room as the claim has it -/
theorem lw_ret {p : Program} {l : Launch} {e : Env} {s : State} {m : MethodId} {below : List Frame} {meth : Method} {c : Code} {b : Nat} (hx : p.tables.exec = Jvm.exec) (hb : c.code = code) (hr : meth.sig.returnType = ret) (hlocks : meth.locks = false) {pc : Nat} {H : Heap} {ls : Array Slot} (hdg : decode code pc = .ok (.ireturn, 1)) : W p l e room_1 s m #[Value.ref b] below meth c H [] 600000 7302250 (lw_Z below #[Value.ref b] s) (F0 m pc ls [.int 1]) := by
  intro T hT X
  obtain ⟨fs, hret, hrun, hended, hW, hframe⟩ := X.leave (v := some (.int 1)) (hlocks := hlocks) (fun h => by rw [hr] at h; cases h)
  have hmeth' : T.vm.method? m = some meth := X.method'
  refine ⟨T.setFrames fs, ?_, .returned (some (.int 1)), hrun, hended, rfl, ⟨_, rfl⟩, hW, hframe⟩
  jvm_step X.here [X.here.top, hx, hb, hdg, hmeth', hr, ret, narrow_b1]
  (try refine ⟨rfl, ?_⟩); (try refine ⟨rfl, ?_⟩)
  first | (intro acts; rw [hret _ acts rfl rfl rfl]) | rw [hret _ _ rfl rfl rfl]
  exact Steps.refl _
/-- what holds at the law's entry: the machine, the code, the tables' words (any of lw_tbl by 'hts w (by decide +kernel)'), the script of L ints xs at the cell b, what the Statement gives of the start (any of its parts by flat_of_before) -/
def lw_At (p : Program) (s : State) (m : MethodId) (meth : Method) (c : Code) (b L : Nat) (xs : Nat → Int32) : Prop :=
  p.tables.exec = Jvm.exec ∧ c.code = code ∧ meth.sig.returnType = ret ∧ c.maxLocals = 4 ∧ s.vm.findClass R_law = some m.cls ∧ (∀ w ∈ lw_tbl, w.before #[Value.ref b] s = true) ∧ va_X b L xs s s.heap ∧ b < s.heap.size ∧ meth.locks = false ∧ (Jvm.Cond.and given_1 narrow_1).before #[Value.ref b] s = true
section JB
variable {g : jG} {w : jW} {cc : ByteArray} {nL pc : Nat} {own : String} {D : va_G} {L : List (Nat × Value)} {st : List Value} {k0 n0 : Nat} {rm : Room} {l : Launch} {B : Nat} {H0 : Heap} {y0 : MethodName} {post : Option Value → jW → Prop} {mc ms : Nat}
/-- the script -/
theorem j_sld (C : jX g cc nL own D) {b Ls : Nat} {xs : Nat → Int32} (hX : va_X b Ls xs (jGs g) (jGH g)) (hb : b < jGB g) {i : Int32} (k : Nat) (hk : i.toNatClampNeg = k) (hin : vp_in i Ls) (hd : decode cc pc = .ok (.iaload, 1)) (kk : JJ g w (pc + 1) L (.int (xs k) :: st)) : JJ g w pc L (.int i :: .ref b :: st) := by
  obtain ⟨⟨hx, hcb, hml, ho, hts, hK, -⟩, rfl, rfl, rfl, rfl⟩ := C
  subst hk
  intro H locs ls h1 h2 h3 h4 h5
  obtain ⟨scr, s1, s2, s3, s4, s5⟩ := hX
  have hlt : i.toNatClampNeg < Ls := Nat.not_le.mp fun q => hin (Or.inr q)
  exact W.iald (v := .int (xs i.toNatClampNeg)) hx hcb (by rw [h1.2.2.1 b hb]; exact s1) s2 s3 (by rw [s4]; exact hin) (s5 _ hlt) rfl rfl hd (kk H locs ls h1 h2 h3 h4 h5)
theorem j_slen (C : jX g cc nL own D) {b Ls : Nat} {xs : Nat → Int32} (hX : va_X b Ls xs (jGs g) (jGH g)) (hb : b < jGB g) (hd : decode cc pc = .ok (.arraylength, 1)) (kk : JJ g w (pc + 1) L (.int (Int32.ofNat Ls) :: st)) : JJ g w pc L (.ref b :: st) := by
  obtain ⟨⟨hx, hcb, hml, ho, hts, hK, -⟩, rfl, rfl, rfl, rfl⟩ := C
  intro H locs ls h1 h2 h3 h4 h5
  obtain ⟨scr, s1, s2, s3, s4, s5⟩ := hX
  exact W.alen (n := Int32.ofNat Ls) hx hcb (by rw [h1.2.2.1 b hb]; exact s1) s2 (by rw [s4] <;> rfl) rfl rfl hd (kk H locs ls h1 h2 h3 h4 h5)
end JB
/-- what is fixed in the law -/
def lawE (g : jG) (D : va_G) (b Ls : Nat) (xs : Nat → Int32) : Prop := jX g code 4 "ChanceStepsLaw" D ∧ jRm g 0 0 room_1 ∧ va_X b Ls xs (jGs g) (jGH g) ∧ b < jGB g ∧ jGB g = (jGs g).heap.size ∧ jGQ g = lw_Z (jGb g) (jGa g) (jGs g) ∧ jGa g = #[Value.ref b] ∧ (jGt g).sig.returnType = ret
theorem law_ret {g : jG} {D : va_G} {b Ls : Nat} {xs : Nat → Int32} {w : jW} {pc : Nat} {L : List (Nat × Value)} (E : lawE g D b Ls xs) (hd : decode code pc = .ok (.ireturn, 1)) (hc : w.2.1 ≤ 600000 ∧ w.2.2 ≤ 7302250) : JJ g w pc L [.int 1] := by
  obtain ⟨p, l, e, R, s, m, a, below, meth, c, D0, B, H0, k, n, L0, Q, o, y⟩ := g
  obtain ⟨⟨⟨hx, hb, hml, ho, hts, hK, hnm, hlk, -⟩, h01, h02, h03, h04⟩, ⟨h05, h06, h07⟩, hX, hbl, hB, hQ, ha, hr⟩ := E
  simp only [jGp, jGl, jGe, jGR, jGs, jGm, jGa, jGb, jGt, jGc, jGD, jGB, jGH, jGk, jGn, jGL, jGQ, jGo, jGy] at hx hb hml ho hts hK hnm hlk h01 h02 h03 h04 h05 h06 h07 hX hbl hB hQ ha hr
  subst ha h07 hB hQ h01
  intro H locs ls h1 h2 h3 h4 h5
  simp only [jGp, jGl, jGe, jGR, jGs, jGm, jGa, jGb, jGt, jGc, jGD, jGB, jGH, jGk, jGn, jGL, jGQ, jGo, jGy] at h1 h2 h3 h4 h5 ⊢
  refine va_forget (fun q hq => h4 q hq) ?_
  refine W.widen (k := 600000) (n := 7302250) (by omega) (by omega) ?_
  exact lw_ret hx hb hr hlk hd

/-- both objects, from call to call -/
def lawI (D : va_G) (w : jW) (x m : Nat) : Prop := ∃ (G : tG) (ad : mAd) (A C : mA), (WOK D G w ∧ bud G w ∧ G x = some 8) ∧ (mW D ad A w ∧ mTy A ∧ mI A ∧ mStr D ad ∧ ad 0 0 = m) ∧ (∀ f k, k < mcnt f → G (ad f k) = none) ∧ hW D G C w ∧ R9 x C A
theorem mcell_sm {D : va_G} {ad : mAd} {A : mA} {f k : Nat} {c : Option jEl} (h : mcell D ad A f k c) : ∃ e, c = some e := by
  unfold mcell at h
  split at h
  · exact ⟨_, h⟩
  · exact ⟨_, h⟩
  · exact ⟨_, h⟩
  · obtain ⟨F, h, -⟩ := h
    exact ⟨_, h⟩
  · obtain ⟨V, h, -⟩ := h
    exact ⟨_, h⟩
theorem law_cT {D : va_G} {G G9 : tG} {w w9 : jW} {x : Nat} {ad : mAd} {A : mA} (hx : G x = some 8) (hm : mW D ad A w) (hd : ∀ f k, k < mcnt f → G (ad f k) = none) (h : TRr G w G9 w9) : G9 x = some 8 ∧ mW D ad A w9 ∧ ∀ f k, k < mcnt f → G9 (ad f k) = none := by
  obtain ⟨a1, a2, a3, a4, -, -⟩ := h
  refine ⟨a1 _ _ hx, ⟨hm.1, fun f k hk => ?_⟩, fun f k hk => ?_⟩
  · obtain ⟨e, he⟩ := mcell_sm (hm.2 f k hk)
    rw [a3 _ _ he (hd f k hk), ← he]
    exact hm.2 f k hk
  · cases e : G9 (ad f k) with
    | none => rfl
    | some τ =>
      rcases a2 _ _ e with q | q
      · rw [hd f k hk] at q
        cases q
      · obtain ⟨e1, he⟩ := mcell_sm (hm.2 f k hk)
        rw [he] at q
        cases q
theorem law_cE {D : va_G} {G : tG} {w w9 : jW} {x : Nat} {ad : mAd} {A : mA} {I : tI} {ρ : Nat → Value} {v : Option Value} (hx : G x = some 8) (hm : mW D ad A w) (hd : ∀ f k, k < mcnt f → G (ad f k) = none) (h : tEnd D I G w ρ v w9) : ∃ G9, (WOK D G9 w9 ∧ bud G9 w9 ∧ G9 x = some 8) ∧ mW D ad A w9 ∧ ∀ f k, k < mcnt f → G9 (ad f k) = none := by
  obtain ⟨G9, h1, h2, h3, -⟩ := h
  obtain ⟨b1, b2, b3⟩ := law_cT hx hm hd h3
  exact ⟨G9, ⟨h1, h2, b1⟩, b2, b3⟩
theorem law_mE {D : va_G} {G : tG} {w w9 : jW} {ad : mAd} {A9 : mA} (hW : WOK D G w) (hb : bud G w) (hd : ∀ f k, k < mcnt f → G (ad f k) = none) (hm9 : mW D ad A9 w9) (hf : mfr ad w w9) : WOK D G w9 ∧ bud G w9 := by
  have same : ∀ a τ, G a = some τ → w9.1 a = w.1 a := fun a τ ha => hf.2 a (fun ⟨f, k, hk, e⟩ => by
    rw [e, hd f k hk] at ha
    cases ha)
  refine ⟨fun a τ ha => by rw [same a τ ha]; exact hW a τ ha, hb.same hf.1 (fun a => ?_) (fun a e he => ?_)⟩
  · cases e : G a with
    | none => exact ⟨rfl, rfl⟩
    | some τ =>
      rw [same a τ e]
      exact ⟨rfl, rfl⟩
  · by_cases q : mIn ad a
    · obtain ⟨f, k, hk, e9⟩ := q
      rw [e9]
      exact mcell_sm (hm9.2 f k hk)
    · exact ⟨e, (hf.2 a q).trans he⟩
def chkI (I : tI) : Bool := (IQ I).all (fun Q => match Q.2.1 with
  | [n] => (match Q.2.2.1[n]? with
    | some t => Nat.ble t.1 1
    | none => false)
  | _ => false)
def chkJ (I : tI) : Bool := (IQ I).all (fun Q => match Q.2.1 with
  | [n] => (match Q.2.2.1[n]? with
    | some t => Nat.beq t.1 2 || (Nat.beq t.1 3 || Nat.beq t.1 7)
    | none => false)
  | _ => false)
theorem v_one {v : Option Value} {y : Value} (h : v.toList = [y]) : v = some y := by
  cases v with
  | none => cases h
  | some z =>
    have : z = y := by simpa using h
    rw [this]
theorem tEnd_I {D : va_G} {G : tG} {w w9 : jW} {I : tI} {ρ : Nat → Value} {v : Option Value} (hc : chkI I = true) (h : tEnd D I G w ρ v w9) : ∃ z : Int32, v = some (.int z) := by
  obtain ⟨G9, -, -, -, -, -, Q, hQ, ρ9, -, h5, h6⟩ := h
  have h7 := List.all_eq_true.mp hc Q hQ

  split at h7
  · rename_i n hn
    split at h7
    · rename_i t ht
      have h8 : vok G9 t (ρ9 n) := h5.2.2.2.1 n t ht
      have h9 := Nat.le_of_ble_eq_true h7
      rw [cS, hn] at h6
      have e : v = some (ρ9 n) := v_one h6
      have e1 : t.1 = 0 ∨ t.1 = 1 := by omega
      unfold vok at h8
      rcases e1 with e1 | e1
      · rw [e1] at h8
        obtain ⟨z, hz, -⟩ := h8
        exact ⟨z, by rw [e, hz]⟩
      · rw [e1] at h8
        obtain ⟨z, hz, -⟩ := h8
        exact ⟨z, by rw [e, hz]⟩
    · cases h7
  · cases h7
theorem tEnd_J {D : va_G} {G : tG} {w w9 : jW} {I : tI} {ρ : Nat → Value} {v : Option Value} (hc : chkJ I = true) (h : tEnd D I G w ρ v w9) : ∃ z : Int64, v = some (.long z) := by
  obtain ⟨G9, -, -, -, -, -, Q, hQ, ρ9, -, h5, h6⟩ := h
  have h7 := List.all_eq_true.mp hc Q hQ

  split at h7
  · rename_i n hn
    split at h7
    · rename_i t ht
      have h8 : vok G9 t (ρ9 n) := h5.2.2.2.1 n t ht
      rw [cS, hn] at h6
      have e : v = some (ρ9 n) := v_one h6
      have e1 : t.1 = 2 ∨ t.1 = 3 ∨ t.1 = 7 := by
        rw [Bool.or_eq_true, Bool.or_eq_true] at h7
        rcases h7 with q | q | q
        · exact Or.inl (Nat.eq_of_beq_eq_true q)
        · exact Or.inr (Or.inl (Nat.eq_of_beq_eq_true q))
        · exact Or.inr (Or.inr (Nat.eq_of_beq_eq_true q))
      unfold vok at h8
      rcases e1 with e1 | e1 | e1
      · rw [e1] at h8
        obtain ⟨z, hz⟩ := h8
        exact ⟨z, by rw [e, hz]⟩
      · rw [e1] at h8
        obtain ⟨z, hz, -⟩ := h8
        exact ⟨z, by rw [e, hz]⟩
      · rw [e1] at h8
        exact ⟨0, by rw [e, h8]⟩
    · cases h7
  · cases h7
def rhoL (x : Nat) (as : List Int32) (j : Nat) : Value := match j with
  | 0 => .ref x
  | j + 1 => (match as[j]? with
    | some a => .int a
    | none => .null)
theorem law_sat {D : va_G} {G : tG} {w : jW} {x : Nat} {as : List Int32} (gx : G x = some 8) {s2 : List Nat} {s3 : List vT} (h2 : s2 = (List.range (as.length + 1)).reverse) (h3 : s3 = (4, 8, 0) :: List.replicate as.length (0, -2147483648, 2147483647)) : tSat D G w (rhoL x as) ([], s2, s3, []) := by
  subst h2 h3
  refine ⟨(fun q hq => by cases hq), fun i hi => ?_, (fun q hq => by cases hq), fun j t hj => ?_, (fun q hq => by cases hq)⟩
  · have h9 : i < as.length + 1 := by simpa using hi
    show i < ((4, 8, 0) :: List.replicate as.length ((0, -2147483648, 2147483647) : vT)).length
    rw [List.length_cons, List.length_replicate]
    exact h9
  · cases j with
    | zero =>
      cases hj
      exact ⟨x, rfl, gx⟩
    | succ j =>
      have hj : (List.replicate as.length ((0, -2147483648, 2147483647) : vT))[j]? = some t := hj
      obtain ⟨h8, h9⟩ := List.getElem?_eq_some_iff.mp hj
      have h8 : j < as.length := by simpa using h8
      rw [List.getElem_replicate] at h9
      subst h9
      refine ⟨as[j], ?_, Int32.le_toInt _, ?_⟩
      · show (match as[j]? with | some a => Value.int a | none => .null) = _
        rw [List.getElem?_eq_getElem h8]
      · have := Int32.toInt_lt as[j]
        show _ ≤ 2147483647
        omega
theorem law_room {G : tG} {w : jW} (h : bud G w) : w.2.1 + (KC - w.2.1) ≤ 0 + room_1.cells ∧ w.2.2 + (KS - w.2.2) ≤ 0 + room_1.slots := by
  have h1 : w.2.1 ≤ 5000 := h.le.1
  have h2 : w.2.2 ≤ 500000 := h.le.2
  refine ⟨?_, ?_⟩
  · show w.2.1 + (5000 - w.2.1) ≤ 0 + 600000
    omega
  · show w.2.2 + (500000 - w.2.2) ≤ 0 + 7302250
    omega
theorem law_room0 {G : tG} {w : jW} (h : bud G w) : w.2.1 + 0 ≤ 0 + room_1.cells ∧ w.2.2 + 0 ≤ 0 + room_1.slots := by
  have h1 : w.2.1 ≤ 5000 := h.le.1
  have h2 : w.2.2 ≤ 500000 := h.le.2
  refine ⟨?_, ?_⟩
  · show w.2.1 + 0 ≤ 0 + 600000
    omega
  · show w.2.2 + 0 ≤ 0 + 7302250
    omega
theorem law_fit {D : va_G} {w : jW} {x m : Nat} (h : lawI D w x m) : w.2.1 ≤ 600000 ∧ w.2.2 ≤ 7302250 := by
  obtain ⟨G, ad, A, C, ⟨-, hb, -⟩, -⟩ := h
  have h1 : w.2.1 ≤ 5000 := hb.le.1
  have h2 : w.2.2 ≤ 500000 := hb.le.2
  omega
theorem li_c {i c : Nat} {x : Int32} (hx : x = nI c) (h : i + c < 4000) : (nI i + x).toNatClampNeg = i + c := by
  rw [hx, nI_add]
  exact nI_clampY (by omega)
theorem li_n {i c Ls : Nat} {x : Int32} (hx : x = nI c) (h : i + c < Ls) (hL : Ls ≤ 3584) : vp_in (nI i + x) Ls := by
  rw [hx, nI_add]
  exact vp_in_nI h (by omega)
theorem ls_7 {Ls : Nat} (h : Ls ≤ 3584) : (Int32.ofNat Ls - 7).toInt = (Ls : Int) - 7 := by
  have e : Int32.ofNat Ls - 7 = Int32.ofInt ((Ls : Int) - 7) := by
    rw [Int32.ofInt_sub, Int32.ofInt_eq_ofNat]
    rfl
  rw [e, iR (by omega)]
theorem ls_le {Ls i : Nat} (h : Ls ≤ 3584) (hi : i ≤ Ls) (c : ¬ Int32.ofNat Ls - 7 < nI i) : i + 7 ≤ Ls := by
  rw [jlt, ls_7 h, nI_toInt (by omega)] at c
  omega
theorem tab25 (x : Int32) : (x.toInt < 0 ∨ 24 < x.toInt) ∨ ∃ k, k < 25 ∧ x = nI k := by
  by_cases h : x.toInt < 0 ∨ 24 < x.toInt
  · exact Or.inl h
  · refine Or.inr ⟨x.toInt.toNat, by omega, Int32.toInt_inj.mp ?_⟩
    rw [nI_toInt (by omega)]; omega
theorem law_tE0 {D : va_G} {G : tG} {w w9 : jW} {x : Nat} {ad : mAd} {A C : mA} {I : tI} {ρ : Nat → Value} {v : Option Value} (hk : chkS I = true) (hx : G x = some 8) (hw : hW D G C w) (hm : mW D ad A w) (hd : ∀ f k, k < mcnt f → G (ad f k) = none) (h : tEnd D I G w ρ v w9) : ∃ (G9 : tG) (C9 : mA), (WOK D G9 w9 ∧ bud G9 w9 ∧ G9 x = some 8) ∧ mW D ad A w9 ∧ (∀ f k, k < mcnt f → G9 (ad f k) = none) ∧ hW D G9 C9 w9 ∧ ∀ τ a k, G a = some τ → keepS τ k = true → C9 τ a k = C τ a k := by
  obtain ⟨G9, h1, h2, h3, h4, -⟩ := h
  obtain ⟨b1, b2, b3⟩ := law_cT hx hm hd h3
  obtain ⟨C9, c1, c2⟩ := hW_T hk hw h1 h3 h4
  exact ⟨G9, C9, ⟨h1, h2, b1⟩, b2, b3, c1, c2⟩
theorem law_tE {D : va_G} {G : tG} {w w9 : jW} {x : Nat} {ad : mAd} {A C : mA} {I : tI} {ρ : Nat → Value} {v : Option Value} (hk : chkU I = true) (hx : G x = some 8) (hw : hW D G C w) (hm : mW D ad A w) (hd : ∀ f k, k < mcnt f → G (ad f k) = none) (h : tEnd D I G w ρ v w9) : ∃ (G9 : tG) (C9 : mA), (WOK D G9 w9 ∧ bud G9 w9 ∧ G9 x = some 8) ∧ mW D ad A w9 ∧ (∀ f k, k < mcnt f → G9 (ad f k) = none) ∧ hW D G9 C9 w9 ∧ ∀ τ a k, G a = some τ → keepU τ k = true → C9 τ a k = C τ a k := by
  obtain ⟨G9, h1, h2, h3, h4, -⟩ := h
  obtain ⟨b1, b2, b3⟩ := law_cT hx hm hd h3
  obtain ⟨C9, c1, c2⟩ := hW_U hk hw h1 h3 h4
  exact ⟨G9, C9, ⟨h1, h2, b1⟩, b2, b3, c1, c2⟩
/-- a mask that leaves what the relation speaks of -/
def mk9 (S : Nat → Nat → Nat → Bool) : Prop := (S 0 0 0 = false ∧ S 0 0 22 = false ∧ S 0 0 37 = false) ∧ (∀ j, S 9 0 j = false) ∧ (∀ j, S 10 0 j = false) ∧ ((∀ j, S 5 0 j = false) ∧ (∀ j, S 6 0 j = false) ∧ (∀ j, S 7 0 j = false)) ∧ ((∀ k j, S 34 k j = false) ∧ (∀ k j, S 35 k j = false) ∧ (∀ k j, S 36 k j = false) ∧ (∀ k j, S 37 k j = false) ∧ (∀ k j, S 38 k j = false) ∧ (∀ k j, S 39 k j = false) ∧ (∀ k j, S 40 k j = false) ∧ (∀ k j, S 41 k j = false) ∧ (∀ k j, S 42 k j = false) ∧ (∀ k j, S 43 k j = false) ∧ (∀ k j, S 44 k j = false) ∧ (∀ k j, S 45 k j = false) ∧ (∀ k j, S 46 k j = false))
theorem R9.M {S : Nat → Nat → Nat → Bool} {x : Nat} {C A A9 : mA} (h : R9 x C A) (q : mEq S A A9) (m : mk9 S) (h8 : ∀ j, A9 8 0 j = A 8 0 j) : R9 x C A9 := by
  obtain ⟨⟨m0, m22, m37⟩, m9, m10, ⟨m5, m6, m7⟩, m34⟩ := m
  exact h.cA ⟨q 0 0 0 m0, q 0 0 22 m22, q 0 0 37 m37⟩ (fun j _ => q 9 0 j (m9 j)) (fun j _ => ⟨h8 j, q 10 0 j (m10 j)⟩) (fun p _ => ⟨q 5 0 p (m5 p), q 6 0 p (m6 p), q 7 0 p (m7 p)⟩) (fun p _ f j h1 h2 _ _ _ => q f p j (e34 h1 h2 m34))
theorem face_cE {D : va_G} {G : tG} {w w9 w' : jW} {x : Nat} {ad : mAd} {A A9 : mA} {I : tI} {ρ : Nat → Value} {v : Option Value} (hx : G x = some 8) (hm : mW D ad A w) (hd : ∀ f k, k < mcnt f → G (ad f k) = none) (h : tEnd D I G w ρ v w9) (hj : jAg D w9 w') (q : ∃ (G1 : tG) (C1 : mA), (∀ a τ, G a = some τ → G1 a = some τ) ∧ hW D G1 C1 w' ∧ R9 x C1 A9) : ∃ (G9 : tG) (C9 : mA), (WOK D G9 w9 ∧ bud G9 w9 ∧ G9 x = some 8) ∧ mW D ad A w9 ∧ (∀ f k, k < mcnt f → G9 (ad f k) = none) ∧ hW D G9 C9 w9 ∧ R9 x C9 A9 := by
  obtain ⟨G9, h1, h2, h3, -⟩ := h
  obtain ⟨b1, b2, b3⟩ := law_cT hx hm hd h3
  obtain ⟨G1, C1, g1, g2, g3⟩ := q
  obtain ⟨C9, c1, c2⟩ := hW_join h1 g2 hj
  exact ⟨G9, C9, ⟨h1, h2, b1⟩, b2, b3, c1, R9.keepC g2 (g1 _ _ hx) g3 (fun τ a k e _ => c2 τ a k e)⟩
theorem R3_0 {D : va_G} {w : jW} {x tp pg : Nat} {V9 : Nat → Value} (n_x : w.1 x = some (.inr (8, V9))) (n_tp : w.1 tp = some (aI D 120 (fun _ => 0))) (n_pg : w.1 pg = some (aR D 8 6 (fun _ => none))) (h0 : V9 0 = .ref tp) (h1 : V9 1 = .int 0) (h2 : V9 2 = .ref pg) (h3 : V9 3 = .int 0) (h5 : V9 5 = .int 0) : R3 x (hread w) mA0 := by
  have r : ∀ k, hread w 8 x k = vrd (V9 k) := fun k => by
    unfold hread
    rw [n_x]
  have v0 : vrd (.int 0) = 0 := by decide
  have et : (hread w 8 x 0).toNat = tp := by
    rw [r, h0]
    rfl
  have eo : aOa (hread w) x = pg := by
    show (hread w 8 x 2).toNat = pg
    rw [r, h2]
    rfl
  have e21 : ∀ p, hread w 21 pg p = -1 := fun p => by
    unfold hread
    rw [n_pg]
  have e20 : ∀ j, hread w 20 tp j = 0 := fun j => by
    unfold hread
    rw [n_tp]
    show (0 : Int32).toInt = 0
    decide
  have m0 : mA0 0 0 0 = 0 := rfl
  unfold R3
  rw [r 1, h1, r 3, h3, r 5, h5, et, eo, v0]
  refine ⟨⟨rfl, by decide, by decide⟩, ⟨rfl, by decide, by decide⟩, Or.inl ⟨rfl, rfl⟩, fun j hj => ?_, fun p hp q => ?_, fun p hp => ?_, fun p p' _ _ _ q _ => ?_⟩
  · rw [e20]
    have e : mA0 9 0 j = 0 := rfl
    rw [e]
    decide
  · rw [e21] at q
    exact absurd q (by decide)
  · rw [m0] at hp
    omega
  · rw [e21] at q
    exact absurd q (by decide)
theorem R6_0 {D : va_G} {w : jW} {x tp pg : Nat} {V9 : Nat → Value} (n_x : w.1 x = some (.inr (8, V9))) (n_tp : w.1 tp = some (aI D 120 (fun _ => 0))) (n_pg : w.1 pg = some (aR D 8 6 (fun _ => none))) (h0 : V9 0 = .ref tp) (h1 : V9 1 = .int 0) (h2 : V9 2 = .ref pg) (h3 : V9 3 = .int 0) (h5 : V9 5 = .int 0) : R6 x (hread w) mA0 := by
  have r : ∀ k, hread w 8 x k = vrd (V9 k) := fun k => by
    unfold hread
    rw [n_x]
  have eo : aOa (hread w) x = pg := by
    show (hread w 8 x 2).toNat = pg
    rw [r, h2]
    rfl
  have e21 : ∀ p, hread w 21 pg p = -1 := fun p => by
    unfold hread
    rw [n_pg]
  have m0 : mA0 0 0 0 = 0 := rfl
  refine ⟨R3_0 n_x n_tp n_pg h0 h1 h2 h3 h5, fun p hp => ?_, fun p p' _ _ _ q _ i _ j _ => ?_⟩
  · rw [m0] at hp
    omega
  · rw [eo, e21] at q
    exact absurd q (by decide)
theorem R9_0 {D : va_G} {w : jW} {x tp pg : Nat} {V9 : Nat → Value} (n_x : w.1 x = some (.inr (8, V9))) (n_tp : w.1 tp = some (aI D 120 (fun _ => 0))) (n_pg : w.1 pg = some (aR D 8 6 (fun _ => none))) (h0 : V9 0 = .ref tp) (h1 : V9 1 = .int 0) (h2 : V9 2 = .ref pg) (h3 : V9 3 = .int 0) (h4 : V9 4 = .int 0) (h5 : V9 5 = .int 0) : R9 x (hread w) mA0 := by
  have r : ∀ k, hread w 8 x k = vrd (V9 k) := fun k => by
    unfold hread
    rw [n_x]
  have eo : aOa (hread w) x = pg := by
    show (hread w 8 x 2).toNat = pg
    rw [r, h2]
    rfl
  have e21 : ∀ p, hread w 21 pg p = -1 := fun p => by
    unfold hread
    rw [n_pg]
  have m0 : mA0 0 0 0 = 0 := rfl
  refine ⟨R6_0 n_x n_tp n_pg h0 h1 h2 h3 h5, fun p hp => ?_, ⟨?_, Or.inl ?_⟩, fun p p' _ _ _ q _ => ?_⟩
  · rw [m0] at hp
    omega
  · rw [r, h4]
    show st9 0 (mA0 8 0)
    refine ⟨by decide, fun j hj => ?_⟩
    have c : j = 0 ∨ j = 1 ∨ j = 2 ∨ j = 3 ∨ j = 4 ∨ j = 5 := by omega
    rcases c with rfl | rfl | rfl | rfl | rfl | rfl <;> exact ⟨rfl, by decide, by decide⟩
  · rw [r, h5]
    decide
  · rw [eo, e21] at q
    exact absurd q (by decide)
