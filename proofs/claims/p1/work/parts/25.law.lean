/-! THE CLAIM OUT OF ONE WALK OF THE LAW'S BODY. Your part is whole_start (and what it stands on); all else here is the same for every law, but numbers. -/
def R_law : String := "ChanceStepsLaw"
def lw_P (b : Addr) (xs : List Int32) (args : Array Value) (s : State) : Prop := args = #[.ref b] ∧ s.IntsAt b xs ∧ xs.length ≤ 7 ∧ (Jvm.Cond.and given_1 narrow_1).before args s = true
def lw_Q (_ : Array Value) (s : State) (o : Outcome) (t : State) : Prop := o = .returned (some (.int 1)) ∧ Framed s o t [] 600000 7302250
def lw_Z (below : List Frame) (a : Array Value) (s : State) : State → Prop := fun t => ∃ o, t.status = .running ∧ Ended t below o ∧ lw_Q a s o t
/-- the law's own end, with 1 on the stack, nothing written that was there before, its room as the claim has it -/
theorem lw_ret {p : Program} {l : Launch} {e : Env} {s : State} {m : MethodId} {below : List Frame} {meth : Method} {c : Code} {b : Nat} (hx : p.tables.exec = Jvm.exec) (hb : c.code = code) (hr : meth.sig.returnType = ret) (hlocks : meth.locks = false) {pc : Nat} {H : Heap} {ls : Array Slot} (hdg : decode code pc = .ok (.ireturn, 1)) : W p l e room_1 s m #[Value.ref b] below meth c H [] 600000 7302250 (lw_Z below #[Value.ref b] s) (F0 m pc ls [.int 1]) := by
  intro T hT X
  obtain ⟨fs, hret, hrun, hended, hW, hframe⟩ := X.leave (v := some (.int 1)) (hlocks := hlocks) (fun h => by rw [hr] at h; cases h)
  have hmeth' : T.vm.method? m = some meth := X.method'
  refine ⟨T.setFrames fs, ?_, .returned (some (.int 1)), hrun, hended, rfl, ⟨_, rfl⟩, hW, hframe⟩
  jvm_step X.here [X.here.top, hx, hb, hdg, hmeth', hr, ret, narrow_b1]
  (try refine ⟨rfl, ?_⟩); (try refine ⟨rfl, ?_⟩)
  first | (intro acts; rw [hret _ acts rfl rfl rfl]) | rw [hret _ _ rfl rfl rfl]
  exact Steps.refl _
/-- what holds at the law's entry: the machine, the code, the tables' words (any of lw_tbl by 'hts w (by decide +kernel)'), the script of L ints xs at the cell b, what the Statement gives of the start (any of its parts by flat_of_before) -/
def lw_At (p : Program) (s : State) (m : MethodId) (meth : Method) (c : Code) (b L : Nat) (xs : Nat → Int32) : Prop :=
  p.tables.exec = Jvm.exec ∧ c.code = code ∧ meth.sig.returnType = ret ∧ c.maxLocals = 4 ∧ s.vm.findClass R_law = some m.cls ∧ (∀ w ∈ lw_tbl, w.before #[Value.ref b] s = true) ∧ va_X b L xs s s.heap ∧ b < s.heap.size ∧ meth.locks = false ∧ (Jvm.Cond.and given_1 narrow_1).before #[Value.ref b] s = true
/-! the law (own work, partly by program) -/
theorem jtightB {p : Program} {l : Launch} {e : Env} {R : Room} {s : State} {m : MethodId} {args : Array Value} {below : List Frame} {meth : Method} {c : Code} {T : State} {locs : List Loc} {cells slots : Nat} {D : va_G} {B k0 n0 : Nat} {H0 : Heap} {M0 : jM} {w : jW} (X : Stand p l e R s m args below meth c T locs cells slots) (h0 : jH D B H0 (M0, k0, n0) s.heap) (h : jH D B H0 w T.heap) : w.2.1 ≤ k0 + cells ∧ w.2.2 ≤ n0 + slots := by
  obtain ⟨g1, g2, X2⟩ := jtight X h0 h
  obtain ⟨e1, e2, e3, e4, e5, e6⟩ := X.same
  have e3 : T.heap.size ≤ s.heap.size + cells := e3
  have hs0 : s.heap.size = B + k0 := h0.1
  have hs : T.heap.size = B + w.2.1 := h.1
  have hj0 : jsum s.heap B = n0 := h0.2.1
  have hj : jsum T.heap B = w.2.2 := h.2.1
  have hold : ((T.heap.toList.drop B).take k0).map (fun c : Cell => c.slots.size) = (s.heap.toList.drop B).map (fun c : Cell => c.slots.size) := by
    apply List.ext_getElem?
    intro i
    rw [List.getElem?_map, List.getElem?_map, List.getElem?_take, List.getElem?_drop, List.getElem?_drop, Array.getElem?_toList, Array.getElem?_toList]
    by_cases hi : i < k0
    · rw [if_pos hi]
      have hlt : B + i < s.heap.size := by omega
      obtain ⟨c', q1, -, q3, -⟩ := e6 (B + i) s.heap[B + i] (Array.getElem?_eq_getElem hlt)
      have q1 : T.heap[B + i]? = some c' := q1
      rw [q1, Array.getElem?_eq_getElem hlt]
      simp [q3]
    · rw [if_neg hi]
      have : s.heap[B + i]? = none := Array.getElem?_eq_none (by omega)
      rw [this]
  have hsp := jsum_split (H := T.heap) (B := B) (k := k0)
  rw [hold, hj, ← hs0] at hsp
  have hj0' : ((s.heap.toList.drop B).map (fun c : Cell => c.slots.size)).sum = n0 := hj0
  rw [hj0'] at hsp
  have e5 : jsum T.heap s.heap.size ≤ slots := e5
  exact ⟨by omega, by omega⟩
section JB
variable {g : jG} {w : jW} {cc : ByteArray} {nL pc : Nat} {own : String} {D : va_G} {L : List (Nat × Value)} {st : List Value} {k0 n0 : Nat} {rm : Room} {l : Launch} {B : Nat} {H0 : Heap} {y0 : MethodName} {post : Option Value → jW → Prop} {mc ms : Nat}
theorem j_afterB (C : jC g) {H : Heap} {locs : List Loc} {ls : Array Slot} (h4 : ∀ q ∈ locs, jGB g ≤ q.base) (h5 : lv_has ls (jGL g) L) {rest st0 : List Value} {a : Array Value} (hk2 : jGk g ≤ w.2.1) (hn2 : jGn g ≤ w.2.2)
    (hr : va_Run (jGp g) (jGl g) (jGe g) (jGR g) (jGs g) (jGm g) (jGa g) (jGb g) (jGt g) (jGc g) H locs (w.2.1 - jGk g) (w.2.2 - jGn g) mc ms (F0 (jGm g) pc ls st0) rest (jQ (jGD g) (jGB g) (jGH g) post a) (fun q => jGB g ≤ q))
    (kk : ∀ (v : Option Value) (w' : jW), post v w' → w'.2.1 ≤ w.2.1 + mc ∧ w'.2.2 ≤ w.2.2 + ms → JJ g w' (pc + 3) L (v.toList ++ rest)) : W (jGp g) (jGl g) (jGe g) (jGR g) (jGs g) (jGm g) (jGa g) (jGb g) (jGt g) (jGc g) H locs (w.2.1 - jGk g) (w.2.2 - jGn g) (jGQ g) (F0 (jGm g) pc ls st0) := by
  obtain ⟨-, -, -, -, -, -, -, -, M0, hM0⟩ := C
  intro T hT X
  obtain ⟨v, st₀, t, T', L', h0, X', hL, e1, e2, ⟨v2, w', hv, hp, hH'⟩, hst⟩ := hr T hT X
  cases hv
  rw [← e1] at hH'
  obtain ⟨b1, b2⟩ := jtightB X' hM0 hH'
  obtain ⟨g1, g2, X2⟩ := jtight X' hM0 hH'
  obtain ⟨t2, a1, b3⟩ := kk v w' hp ⟨by omega, by omega⟩ T'.heap (locs ++ L') ls hH' g1 g2 (fun q hq => by
    rcases List.mem_append.mp hq with h | h
    · exact h4 q h
    · exact hL q h) h5 T' rfl X2
  exact ⟨t2, hst t2 a1, b3⟩
theorem j_callVB (C : jX g cc nL own D) (Rm : jRm g k0 n0 rm) (Y : jY g l B H0 y0) {idx n maxL fr lo a ci : Nat} {V : Nat → Value} {r : vw_C} {y : MethodName} {bytes : ByteArray} {ret : Option FieldType} (As rest : List Value) (hM : jMet l D B H0 y bytes maxL ret fr lo mc ms (.ref a :: As) w post) (hc : jcV own idx y bytes maxL ret n) (hci : vwCl[ci]? = some r) (hrc : r.1 = y.cls) (ha : w.1 a = some (.inr (ci, V))) (hd : decode cc pc = .ok (.invokevirtual idx, 3)) (hn : As.length = n) (hst : st = As.reverse ++ .ref a :: rest) (h8 : (rest.map fun v => v.category).sum ≤ 8) (hR : fr + 1 ≤ rm.frames ∧ 8 + (maxL + 11) + lo ≤ rm.locals) (hroom : w.2.1 + mc ≤ k0 + rm.cells ∧ w.2.2 + ms ≤ n0 + rm.slots)
    (kk : ∀ (v : Option Value) (w' : jW), post v w' → w'.2.1 ≤ w.2.1 + mc ∧ w'.2.2 ≤ w.2.2 + ms → JJ g w' (pc + 3) L (v.toList ++ rest)) : JJ g w pc L st := by
  obtain ⟨hC, rfl, rfl, rfl, rfl⟩ := C
  obtain ⟨rfl, rfl, rfl⟩ := Rm
  obtain ⟨rfl, rfl, rfl, rfl⟩ := Y
  obtain ⟨hx, hb, hml, ho, hts, hK, -⟩ := id hC
  subst hst
  intro H locs ls h1 h2 h3 h4 h5
  obtain ⟨r', g0, cell, g1, g2, g3, -⟩ := h1.at ha
  have hrr : r' = r := Option.some.inj (g0.symm.trans hci)
  subst hrr
  have hrec : ∃ cell : Cell, H[a]? = some cell ∧ cell.vm.isStatics = false ∧ (jGs g).vm.findClass y.cls = some cell.cls := ⟨cell, g1, by rw [g3]; rfl, by rw [g2, ← hrc]; exact (hK.1 ci _ hci).2.1⟩
  exact j_afterB hC h4 h5 h2 h3 (va_runV (C := y.cls) (As := As) (rest := rest) ⟨hx, hb, hml, ho, hts⟩ hM ⟨hc.1.call hts (hts _ hc.2.2.2) hR, hts _ hc.2.1, hts _ hc.2.2.1⟩ ⟨jPc_blind _ _ _ _ _, hrec, fun U hU hW => ⟨rfl, by rw [hU]; exact h1, hK.moved hW⟩⟩ rfl hn h5.1 rfl (lv_room h8) hd ⟨by omega, by omega⟩) kk
/-- the script -/
theorem j_sld (C : jX g cc nL own D) {b Ls : Nat} {xs : Nat → Int32} (hX : va_X b Ls xs (jGs g) (jGH g)) (hb : b < jGB g) {i : Int32} (k : Nat) (hk : i.toNatClampNeg = k) (hin : vp_in i Ls) (hd : decode cc pc = .ok (.iaload, 1)) (kk : JJ g w (pc + 1) L (.int (xs k) :: st)) : JJ g w pc L (.int i :: .ref b :: st) := by
  obtain ⟨⟨hx, hcb, hml, ho, hts, hK, -⟩, rfl, rfl, rfl, rfl⟩ := C
  subst hk
  intro H locs ls h1 h2 h3 h4 h5
  obtain ⟨scr, s1, s2, s3, s4, s5⟩ := hX
  have hlt : i.toNatClampNeg < Ls := Nat.not_le.mp fun q => hin (Or.inr q)
  exact W.iald (v := .int (xs i.toNatClampNeg)) hx hcb (by rw [h1.2.2.1 b hb]; exact s1) s2 s3 (by rw [s4]; exact hin) (s5 _ hlt) rfl rfl hd (kk H locs ls h1 h2 h3 h4 h5)
theorem j_slen (C : jX g cc nL own D) {b Ls : Nat} {xs : Nat → Int32} (hX : va_X b Ls xs (jGs g) (jGH g)) (hb : b < jGB g) (hd : decode cc pc = .ok (.arraylength, 1)) (kk : JJ g w (pc + 1) L (.int (Int32.ofNat Ls) :: st)) : JJ g w pc L (.ref b :: st) := by
  obtain ⟨⟨hx, hcb, hml, ho, hts, hK, -⟩, rfl, rfl, rfl, rfl⟩ := C
  intro H locs ls h1 h2 h3 h4 h5
  obtain ⟨scr, s1, s2, s3, s4, s5⟩ := hX
  exact W.alen (n := Int32.ofNat Ls) hx hcb (by rw [h1.2.2.1 b hb]; exact s1) s2 (by rw [s4] <;> rfl) rfl rfl hd (kk H locs ls h1 h2 h3 h4 h5)
end JB
/-- what is fixed in the law -/
def lawE (g : jG) (D : va_G) (b Ls : Nat) (xs : Nat → Int32) : Prop := jX g code 4 "ChanceStepsLaw" D ∧ jRm g 0 0 room_1 ∧ va_X b Ls xs (jGs g) (jGH g) ∧ b < jGB g ∧ jGB g = (jGs g).heap.size ∧ jGQ g = lw_Z (jGb g) (jGa g) (jGs g) ∧ jGa g = #[Value.ref b] ∧ (jGt g).sig.returnType = ret
theorem law_ret {g : jG} {D : va_G} {b Ls : Nat} {xs : Nat → Int32} {w : jW} {pc : Nat} {L : List (Nat × Value)} (E : lawE g D b Ls xs) (hd : decode code pc = .ok (.ireturn, 1)) (hc : w.2.1 ≤ 600000 ∧ w.2.2 ≤ 7302250) : JJ g w pc L [.int 1] := by
  obtain ⟨p, l, e, R, s, m, a, below, meth, c, D0, B, H0, k, n, L0, Q, o, y⟩ := g
  obtain ⟨⟨⟨hx, hb, hml, ho, hts, hK, hnm, hlk, -⟩, h01, h02, h03, h04⟩, ⟨h05, h06, h07⟩, hX, hbl, hB, hQ, ha, hr⟩ := E
  simp only [jGp, jGl, jGe, jGR, jGs, jGm, jGa, jGb, jGt, jGc, jGD, jGB, jGH, jGk, jGn, jGL, jGQ, jGo, jGy] at hx hb hml ho hts hK hnm hlk h01 h02 h03 h04 h05 h06 h07 hX hbl hB hQ ha hr
  subst ha h07 hB hQ h01
  intro H locs ls h1 h2 h3 h4 h5
  simp only [jGp, jGl, jGe, jGR, jGs, jGm, jGa, jGb, jGt, jGc, jGD, jGB, jGH, jGk, jGn, jGL, jGQ, jGo, jGy] at h1 h2 h3 h4 h5 ⊢
  refine va_forget (fun q hq => h4 q hq) ?_
  refine W.widen (k := 600000) (n := 7302250) (by omega) (by omega) ?_
  exact lw_ret hx hb hr hlk hd
/-- the class's object as it is made: its cells keep P -/
def lawX (D : va_G) (w : jW) (x : Nat) (P : Nat → Prop) : Prop := ∃ (V : Nat → Value) (tp pg sh rd : Nat) (F : Nat → Option Nat) (Vr : Nat → Value), w.1 x = some (.inr (8, V)) ∧ V 0 = .ref tp ∧ V 1 = .int 0 ∧ V 2 = .ref pg ∧ V 3 = .int 0 ∧ V 4 = .int 0 ∧ V 5 = .int 0 ∧ V 8 = .ref sh ∧ V 9 = .ref rd ∧ w.1 tp = some (aI D 120 (fun _ => 0)) ∧ w.1 pg = some (aR D 8 6 (fun _ => none)) ∧ w.1 sh = some (aR D 9 4 F) ∧ w.1 rd = some (.inr (3, Vr)) ∧ (P x ∧ P tp ∧ P pg ∧ P sh ∧ P rd) ∧ ∀ j, j < 4 → ∃ (s e : Nat) (Vs : Nat → Value), F j = some s ∧ w.1 s = some (.inr (5, Vs)) ∧ Vs 0 = .ref e ∧ Vs 1 = .int (-1) ∧ Vs 2 = .int 0 ∧ w.1 e = some (aI D 40 (fun _ => 0)) ∧ P s ∧ P e
theorem lawX.mono {D : va_G} {w w' : jW} {x : Nat} {P P' : Nat → Prop} (h : lawX D w x P) (hp : ∀ a e, w.1 a = some e → P a → w'.1 a = some e ∧ P' a) : lawX D w' x P' := by
  obtain ⟨V, tp, pg, sh, rd, F, Vr, hx, h0, h1, h2, h3, h4, h5, h8, h9, ht, hpg, hsh, hrd, ⟨p1, p2, p3, p4, p5⟩, hs⟩ := h
  refine ⟨V, tp, pg, sh, rd, F, Vr, (hp _ _ hx p1).1, h0, h1, h2, h3, h4, h5, h8, h9, (hp _ _ ht p2).1, (hp _ _ hpg p3).1, (hp _ _ hsh p4).1, (hp _ _ hrd p5).1, ⟨(hp _ _ hx p1).2, (hp _ _ ht p2).2, (hp _ _ hpg p3).2, (hp _ _ hsh p4).2, (hp _ _ hrd p5).2⟩, fun j hj => ?_⟩
  obtain ⟨s, e, Vs, q1, q2, q3, q4, q5, q6, q7, q8⟩ := hs j hj
  exact ⟨s, e, Vs, q1, (hp _ _ q2 q7).1, q3, q4, q5, (hp _ _ q6 q8).1, (hp _ _ q2 q7).2, (hp _ _ q6 q8).2⟩
/-- the reference as it is made -/
def lawM (D : va_G) (w : jW) (m : Nat) (P : Nat → Prop) : Prop := ∃ (V : Nat → Value) (st tp im so ln it : Nat) (fS : Nat → Int32), w.1 m = some (.inr (10, V)) ∧ V 0 = .int 0 ∧ V 17 = .ref st ∧ V 21 = .ref tp ∧ V 22 = .int 0 ∧ V 37 = .int (-1) ∧ V 38 = .ref im ∧ V 39 = .ref so ∧ V 40 = .ref ln ∧ V 41 = .ref it ∧ w.1 st = some (aI D 6 (fun _ => 0)) ∧ w.1 tp = some (aI D 120 (fun _ => 0)) ∧ w.1 im = some (aI D 6 (fun _ => 0)) ∧ w.1 so = some (aI D 4 fS) ∧ (∀ j, j < 4 → fS j = -1) ∧ w.1 ln = some (aI D 4 (fun _ => 0)) ∧ w.1 it = some (aR D 3 4 (jro 4 (fun j => it + 1 + j))) ∧ (∀ j, j < 4 → w.1 (it + 1 + j) = some (aI D 40 (fun _ => 0))) ∧ so ≠ ln ∧ st ≠ im ∧ P m ∧ P st ∧ P tp ∧ P im ∧ P so ∧ P ln ∧ P it ∧ ∀ j, j < 4 → P (it + 1 + j)
theorem lawM.mono {D : va_G} {w w' : jW} {m : Nat} {P P' : Nat → Prop} (h : lawM D w m P) (hp : ∀ a e, w.1 a = some e → P a → w'.1 a = some e ∧ P' a) : lawM D w' m P' := by
  obtain ⟨V, st, tp, im, so, ln, it, fS, hm, h0, h17, h21, h22, h37, h38, h39, h40, h41, hst, htp, him, hso, hfS, hln, hit, hrw, sl, si, p1, p2, p3, p4, p5, p6, p7, p8⟩ := h
  exact ⟨V, st, tp, im, so, ln, it, fS, (hp _ _ hm p1).1, h0, h17, h21, h22, h37, h38, h39, h40, h41, (hp _ _ hst p2).1, (hp _ _ htp p3).1, (hp _ _ him p4).1, (hp _ _ hso p5).1, hfS, (hp _ _ hln p6).1, (hp _ _ hit p7).1, fun j hj => (hp _ _ (hrw j hj) (p8 j hj)).1, sl, si, (hp _ _ hm p1).2, (hp _ _ hst p2).2, (hp _ _ htp p3).2, (hp _ _ him p4).2, (hp _ _ hso p5).2, (hp _ _ hln p6).2, (hp _ _ hit p7).2, fun j hj => (hp _ _ (hrw j hj) (p8 j hj)).2⟩
theorem k_law_148_5 : sblk code [(148, .aload_n 1, .null), (149, .aload_n 0, .null), (150, .iload_n 3, .null), (151, .iconst 1, .int 1), (152, .iadd, .null)] := sblk_of (by decide +kernel)
theorem d_law_153 : decode code 153 = .ok (.iaload, 1) := by decide +kernel
theorem k_law_154_4 : sblk code [(154, .aload_n 0, .null), (155, .iload_n 3, .null), (156, .iconst 2, .int 2), (157, .iadd, .null)] := sblk_of (by decide +kernel)
theorem d_law_158 : decode code 158 = .ok (.iaload, 1) := by decide +kernel
theorem k_law_159_4 : sblk code [(159, .aload_n 0, .null), (160, .iload_n 3, .null), (161, .iconst 3, .int 3), (162, .iadd, .null)] := sblk_of (by decide +kernel)
theorem d_law_163 : decode code 163 = .ok (.iaload, 1) := by decide +kernel
theorem k_law_164_4 : sblk code [(164, .aload_n 0, .null), (165, .iload_n 3, .null), (166, .iconst 4, .int 4), (167, .iadd, .null)] := sblk_of (by decide +kernel)
theorem d_law_168 : decode code 168 = .ok (.iaload, 1) := by decide +kernel
theorem k_law_169_4 : sblk code [(169, .aload_n 0, .null), (170, .iload_n 3, .null), (171, .iconst 5, .int 5), (172, .iadd, .null)] := sblk_of (by decide +kernel)
theorem d_law_173 : decode code 173 = .ok (.iaload, 1) := by decide +kernel
theorem k_law_174_4 : sblk code [(174, .aload_n 0, .null), (175, .iload_n 3, .null), (176, .bipush 6, .int 6), (178, .iadd, .null)] := sblk_of (by decide +kernel)
theorem d_law_179 : decode code 179 = .ok (.iaload, 1) := by decide +kernel
theorem d_law_180 : decode code 180 = .ok (.invokevirtual 13, 3) := by decide +kernel
theorem k_law_183_5 : sblk code [(183, .aload_n 2, .null), (184, .aload_n 0, .null), (185, .iload_n 3, .null), (186, .iconst 1, .int 1), (187, .iadd, .null)] := sblk_of (by decide +kernel)
theorem d_law_188 : decode code 188 = .ok (.iaload, 1) := by decide +kernel
theorem k_law_189_4 : sblk code [(189, .aload_n 0, .null), (190, .iload_n 3, .null), (191, .iconst 2, .int 2), (192, .iadd, .null)] := sblk_of (by decide +kernel)
theorem d_law_193 : decode code 193 = .ok (.iaload, 1) := by decide +kernel
theorem k_law_194_4 : sblk code [(194, .aload_n 0, .null), (195, .iload_n 3, .null), (196, .iconst 3, .int 3), (197, .iadd, .null)] := sblk_of (by decide +kernel)
theorem d_law_198 : decode code 198 = .ok (.iaload, 1) := by decide +kernel
theorem k_law_199_4 : sblk code [(199, .aload_n 0, .null), (200, .iload_n 3, .null), (201, .iconst 4, .int 4), (202, .iadd, .null)] := sblk_of (by decide +kernel)
theorem d_law_203 : decode code 203 = .ok (.iaload, 1) := by decide +kernel
theorem k_law_204_4 : sblk code [(204, .aload_n 0, .null), (205, .iload_n 3, .null), (206, .iconst 5, .int 5), (207, .iadd, .null)] := sblk_of (by decide +kernel)
theorem d_law_208 : decode code 208 = .ok (.iaload, 1) := by decide +kernel
theorem k_law_209_4 : sblk code [(209, .aload_n 0, .null), (210, .iload_n 3, .null), (211, .bipush 6, .int 6), (213, .iadd, .null)] := sblk_of (by decide +kernel)
theorem d_law_214 : decode code 214 = .ok (.iaload, 1) := by decide +kernel
theorem d_law_215 : decode code 215 = .ok (.invokevirtual 17, 3) := by decide +kernel
theorem d_law_218 : decode code 218 = .ok (.if_icmp .eq 933, 3) := by decide +kernel
theorem k_law_223_1 : sblk code [(223, .aload_n 1, .null)] := sblk_of (by decide +kernel)
theorem d_law_224 : decode code 224 = .ok (.invokevirtual 18, 3) := by decide +kernel
theorem k_law_227_1 : sblk code [(227, .aload_n 2, .null)] := sblk_of (by decide +kernel)
theorem d_law_228 : decode code 228 = .ok (.invokevirtual 22, 3) := by decide +kernel
theorem d_law_231 : decode code 231 = .ok (.if_icmp .eq 920, 3) := by decide +kernel
theorem k_law_236_5 : sblk code [(236, .aload_n 1, .null), (237, .aload_n 0, .null), (238, .iload_n 3, .null), (239, .iconst 1, .int 1), (240, .iadd, .null)] := sblk_of (by decide +kernel)
theorem d_law_241 : decode code 241 = .ok (.iaload, 1) := by decide +kernel
theorem k_law_242_4 : sblk code [(242, .aload_n 0, .null), (243, .iload_n 3, .null), (244, .iconst 2, .int 2), (245, .iadd, .null)] := sblk_of (by decide +kernel)
theorem d_law_246 : decode code 246 = .ok (.iaload, 1) := by decide +kernel
theorem d_law_247 : decode code 247 = .ok (.invokevirtual 23, 3) := by decide +kernel
theorem k_law_250_5 : sblk code [(250, .aload_n 2, .null), (251, .aload_n 0, .null), (252, .iload_n 3, .null), (253, .iconst 1, .int 1), (254, .iadd, .null)] := sblk_of (by decide +kernel)
theorem d_law_255 : decode code 255 = .ok (.iaload, 1) := by decide +kernel
theorem k_law_256_4 : sblk code [(256, .aload_n 0, .null), (257, .iload_n 3, .null), (258, .iconst 2, .int 2), (259, .iadd, .null)] := sblk_of (by decide +kernel)
theorem d_law_260 : decode code 260 = .ok (.iaload, 1) := by decide +kernel
theorem d_law_261 : decode code 261 = .ok (.invokevirtual 27, 3) := by decide +kernel
theorem d_law_264 : decode code 264 = .ok (.if_icmp .eq 887, 3) := by decide +kernel
theorem k_law_269_5 : sblk code [(269, .aload_n 1, .null), (270, .aload_n 0, .null), (271, .iload_n 3, .null), (272, .iconst 1, .int 1), (273, .iadd, .null)] := sblk_of (by decide +kernel)
theorem d_law_274 : decode code 274 = .ok (.iaload, 1) := by decide +kernel
theorem k_law_275_4 : sblk code [(275, .aload_n 0, .null), (276, .iload_n 3, .null), (277, .iconst 2, .int 2), (278, .iadd, .null)] := sblk_of (by decide +kernel)
theorem d_law_279 : decode code 279 = .ok (.iaload, 1) := by decide +kernel
theorem d_law_280 : decode code 280 = .ok (.invokevirtual 28, 3) := by decide +kernel
theorem k_law_283_5 : sblk code [(283, .aload_n 2, .null), (284, .aload_n 0, .null), (285, .iload_n 3, .null), (286, .iconst 1, .int 1), (287, .iadd, .null)] := sblk_of (by decide +kernel)
theorem d_law_288 : decode code 288 = .ok (.iaload, 1) := by decide +kernel
theorem k_law_289_4 : sblk code [(289, .aload_n 0, .null), (290, .iload_n 3, .null), (291, .iconst 2, .int 2), (292, .iadd, .null)] := sblk_of (by decide +kernel)
theorem d_law_293 : decode code 293 = .ok (.iaload, 1) := by decide +kernel
theorem d_law_294 : decode code 294 = .ok (.invokevirtual 31, 3) := by decide +kernel
theorem d_law_297 : decode code 297 = .ok (.if_icmp .eq 854, 3) := by decide +kernel
theorem k_law_302_5 : sblk code [(302, .aload_n 1, .null), (303, .aload_n 0, .null), (304, .iload_n 3, .null), (305, .iconst 1, .int 1), (306, .iadd, .null)] := sblk_of (by decide +kernel)
theorem d_law_307 : decode code 307 = .ok (.iaload, 1) := by decide +kernel
theorem k_law_308_4 : sblk code [(308, .aload_n 0, .null), (309, .iload_n 3, .null), (310, .iconst 2, .int 2), (311, .iadd, .null)] := sblk_of (by decide +kernel)
theorem d_law_312 : decode code 312 = .ok (.iaload, 1) := by decide +kernel
theorem k_law_313_4 : sblk code [(313, .aload_n 0, .null), (314, .iload_n 3, .null), (315, .iconst 3, .int 3), (316, .iadd, .null)] := sblk_of (by decide +kernel)
theorem d_law_317 : decode code 317 = .ok (.iaload, 1) := by decide +kernel
theorem d_law_318 : decode code 318 = .ok (.invokevirtual 32, 3) := by decide +kernel
theorem k_law_321_5 : sblk code [(321, .aload_n 2, .null), (322, .aload_n 0, .null), (323, .iload_n 3, .null), (324, .iconst 1, .int 1), (325, .iadd, .null)] := sblk_of (by decide +kernel)
theorem d_law_326 : decode code 326 = .ok (.iaload, 1) := by decide +kernel
theorem k_law_327_4 : sblk code [(327, .aload_n 0, .null), (328, .iload_n 3, .null), (329, .iconst 2, .int 2), (330, .iadd, .null)] := sblk_of (by decide +kernel)
theorem d_law_331 : decode code 331 = .ok (.iaload, 1) := by decide +kernel
theorem k_law_332_4 : sblk code [(332, .aload_n 0, .null), (333, .iload_n 3, .null), (334, .iconst 3, .int 3), (335, .iadd, .null)] := sblk_of (by decide +kernel)
theorem d_law_336 : decode code 336 = .ok (.iaload, 1) := by decide +kernel
theorem d_law_337 : decode code 337 = .ok (.invokevirtual 36, 3) := by decide +kernel
theorem d_law_340 : decode code 340 = .ok (.if_icmp .eq 811, 3) := by decide +kernel
theorem k_law_345_5 : sblk code [(345, .aload_n 1, .null), (346, .aload_n 0, .null), (347, .iload_n 3, .null), (348, .iconst 1, .int 1), (349, .iadd, .null)] := sblk_of (by decide +kernel)
theorem d_law_350 : decode code 350 = .ok (.iaload, 1) := by decide +kernel
theorem k_law_351_4 : sblk code [(351, .aload_n 0, .null), (352, .iload_n 3, .null), (353, .iconst 2, .int 2), (354, .iadd, .null)] := sblk_of (by decide +kernel)
theorem d_law_355 : decode code 355 = .ok (.iaload, 1) := by decide +kernel
theorem k_law_356_4 : sblk code [(356, .aload_n 0, .null), (357, .iload_n 3, .null), (358, .iconst 3, .int 3), (359, .iadd, .null)] := sblk_of (by decide +kernel)
theorem d_law_360 : decode code 360 = .ok (.iaload, 1) := by decide +kernel
theorem d_law_361 : decode code 361 = .ok (.invokevirtual 37, 3) := by decide +kernel
theorem k_law_364_5 : sblk code [(364, .aload_n 2, .null), (365, .aload_n 0, .null), (366, .iload_n 3, .null), (367, .iconst 1, .int 1), (368, .iadd, .null)] := sblk_of (by decide +kernel)
theorem d_law_369 : decode code 369 = .ok (.iaload, 1) := by decide +kernel
theorem k_law_370_4 : sblk code [(370, .aload_n 0, .null), (371, .iload_n 3, .null), (372, .iconst 2, .int 2), (373, .iadd, .null)] := sblk_of (by decide +kernel)
theorem d_law_374 : decode code 374 = .ok (.iaload, 1) := by decide +kernel
theorem k_law_375_4 : sblk code [(375, .aload_n 0, .null), (376, .iload_n 3, .null), (377, .iconst 3, .int 3), (378, .iadd, .null)] := sblk_of (by decide +kernel)
theorem d_law_379 : decode code 379 = .ok (.iaload, 1) := by decide +kernel
theorem d_law_380 : decode code 380 = .ok (.invokevirtual 40, 3) := by decide +kernel
theorem d_law_383 : decode code 383 = .ok (.if_icmp .eq 768, 3) := by decide +kernel
theorem k_law_388_5 : sblk code [(388, .aload_n 1, .null), (389, .aload_n 0, .null), (390, .iload_n 3, .null), (391, .iconst 1, .int 1), (392, .iadd, .null)] := sblk_of (by decide +kernel)
theorem d_law_393 : decode code 393 = .ok (.iaload, 1) := by decide +kernel
theorem k_law_394_4 : sblk code [(394, .aload_n 0, .null), (395, .iload_n 3, .null), (396, .iconst 2, .int 2), (397, .iadd, .null)] := sblk_of (by decide +kernel)
theorem d_law_398 : decode code 398 = .ok (.iaload, 1) := by decide +kernel
theorem d_law_399 : decode code 399 = .ok (.invokevirtual 41, 3) := by decide +kernel
theorem k_law_402_5 : sblk code [(402, .aload_n 2, .null), (403, .aload_n 0, .null), (404, .iload_n 3, .null), (405, .iconst 1, .int 1), (406, .iadd, .null)] := sblk_of (by decide +kernel)
theorem d_law_407 : decode code 407 = .ok (.iaload, 1) := by decide +kernel
theorem k_law_408_4 : sblk code [(408, .aload_n 0, .null), (409, .iload_n 3, .null), (410, .iconst 2, .int 2), (411, .iadd, .null)] := sblk_of (by decide +kernel)
theorem d_law_412 : decode code 412 = .ok (.iaload, 1) := by decide +kernel
theorem d_law_413 : decode code 413 = .ok (.invokevirtual 45, 3) := by decide +kernel
theorem d_law_416 : decode code 416 = .ok (.lcmp, 1) := by decide +kernel
theorem d_law_417 : decode code 417 = .ok (.ifCond .eq 734, 3) := by decide +kernel
theorem k_law_422_5 : sblk code [(422, .aload_n 1, .null), (423, .aload_n 0, .null), (424, .iload_n 3, .null), (425, .iconst 1, .int 1), (426, .iadd, .null)] := sblk_of (by decide +kernel)
theorem d_law_427 : decode code 427 = .ok (.iaload, 1) := by decide +kernel
theorem k_law_428_4 : sblk code [(428, .aload_n 0, .null), (429, .iload_n 3, .null), (430, .iconst 2, .int 2), (431, .iadd, .null)] := sblk_of (by decide +kernel)
theorem d_law_432 : decode code 432 = .ok (.iaload, 1) := by decide +kernel
theorem k_law_433_4 : sblk code [(433, .aload_n 0, .null), (434, .iload_n 3, .null), (435, .iconst 3, .int 3), (436, .iadd, .null)] := sblk_of (by decide +kernel)
theorem d_law_437 : decode code 437 = .ok (.iaload, 1) := by decide +kernel
theorem k_law_438_4 : sblk code [(438, .aload_n 0, .null), (439, .iload_n 3, .null), (440, .iconst 4, .int 4), (441, .iadd, .null)] := sblk_of (by decide +kernel)
theorem d_law_442 : decode code 442 = .ok (.iaload, 1) := by decide +kernel
theorem d_law_443 : decode code 443 = .ok (.invokevirtual 46, 3) := by decide +kernel
theorem k_law_446_5 : sblk code [(446, .aload_n 2, .null), (447, .aload_n 0, .null), (448, .iload_n 3, .null), (449, .iconst 1, .int 1), (450, .iadd, .null)] := sblk_of (by decide +kernel)
theorem d_law_451 : decode code 451 = .ok (.iaload, 1) := by decide +kernel
theorem k_law_452_4 : sblk code [(452, .aload_n 0, .null), (453, .iload_n 3, .null), (454, .iconst 2, .int 2), (455, .iadd, .null)] := sblk_of (by decide +kernel)
theorem d_law_456 : decode code 456 = .ok (.iaload, 1) := by decide +kernel
theorem k_law_457_4 : sblk code [(457, .aload_n 0, .null), (458, .iload_n 3, .null), (459, .iconst 3, .int 3), (460, .iadd, .null)] := sblk_of (by decide +kernel)
theorem d_law_461 : decode code 461 = .ok (.iaload, 1) := by decide +kernel
theorem k_law_462_4 : sblk code [(462, .aload_n 0, .null), (463, .iload_n 3, .null), (464, .iconst 4, .int 4), (465, .iadd, .null)] := sblk_of (by decide +kernel)
theorem d_law_466 : decode code 466 = .ok (.iaload, 1) := by decide +kernel
theorem d_law_467 : decode code 467 = .ok (.invokevirtual 50, 3) := by decide +kernel
theorem d_law_470 : decode code 470 = .ok (.lcmp, 1) := by decide +kernel
theorem d_law_471 : decode code 471 = .ok (.ifCond .eq 680, 3) := by decide +kernel
theorem k_law_476_5 : sblk code [(476, .aload_n 1, .null), (477, .aload_n 0, .null), (478, .iload_n 3, .null), (479, .iconst 1, .int 1), (480, .iadd, .null)] := sblk_of (by decide +kernel)
theorem d_law_481 : decode code 481 = .ok (.iaload, 1) := by decide +kernel
theorem k_law_482_4 : sblk code [(482, .aload_n 0, .null), (483, .iload_n 3, .null), (484, .iconst 2, .int 2), (485, .iadd, .null)] := sblk_of (by decide +kernel)
theorem d_law_486 : decode code 486 = .ok (.iaload, 1) := by decide +kernel
theorem k_law_487_4 : sblk code [(487, .aload_n 0, .null), (488, .iload_n 3, .null), (489, .iconst 3, .int 3), (490, .iadd, .null)] := sblk_of (by decide +kernel)
theorem d_law_491 : decode code 491 = .ok (.iaload, 1) := by decide +kernel
theorem d_law_492 : decode code 492 = .ok (.invokevirtual 51, 3) := by decide +kernel
theorem k_law_495_5 : sblk code [(495, .aload_n 2, .null), (496, .aload_n 0, .null), (497, .iload_n 3, .null), (498, .iconst 1, .int 1), (499, .iadd, .null)] := sblk_of (by decide +kernel)
theorem d_law_500 : decode code 500 = .ok (.iaload, 1) := by decide +kernel
theorem k_law_501_4 : sblk code [(501, .aload_n 0, .null), (502, .iload_n 3, .null), (503, .iconst 2, .int 2), (504, .iadd, .null)] := sblk_of (by decide +kernel)
theorem d_law_505 : decode code 505 = .ok (.iaload, 1) := by decide +kernel
theorem k_law_506_4 : sblk code [(506, .aload_n 0, .null), (507, .iload_n 3, .null), (508, .iconst 3, .int 3), (509, .iadd, .null)] := sblk_of (by decide +kernel)
theorem d_law_510 : decode code 510 = .ok (.iaload, 1) := by decide +kernel
theorem d_law_511 : decode code 511 = .ok (.invokevirtual 55, 3) := by decide +kernel
theorem d_law_514 : decode code 514 = .ok (.lcmp, 1) := by decide +kernel
theorem d_law_515 : decode code 515 = .ok (.ifCond .eq 636, 3) := by decide +kernel
theorem k_law_520_5 : sblk code [(520, .aload_n 1, .null), (521, .aload_n 0, .null), (522, .iload_n 3, .null), (523, .iconst 1, .int 1), (524, .iadd, .null)] := sblk_of (by decide +kernel)
theorem d_law_525 : decode code 525 = .ok (.iaload, 1) := by decide +kernel
theorem k_law_526_4 : sblk code [(526, .aload_n 0, .null), (527, .iload_n 3, .null), (528, .iconst 2, .int 2), (529, .iadd, .null)] := sblk_of (by decide +kernel)
theorem d_law_530 : decode code 530 = .ok (.iaload, 1) := by decide +kernel
theorem k_law_531_4 : sblk code [(531, .aload_n 0, .null), (532, .iload_n 3, .null), (533, .iconst 3, .int 3), (534, .iadd, .null)] := sblk_of (by decide +kernel)
theorem d_law_535 : decode code 535 = .ok (.iaload, 1) := by decide +kernel
theorem k_law_536_4 : sblk code [(536, .aload_n 0, .null), (537, .iload_n 3, .null), (538, .iconst 4, .int 4), (539, .iadd, .null)] := sblk_of (by decide +kernel)
theorem d_law_540 : decode code 540 = .ok (.iaload, 1) := by decide +kernel
theorem d_law_541 : decode code 541 = .ok (.invokevirtual 56, 3) := by decide +kernel
theorem k_law_544_5 : sblk code [(544, .aload_n 2, .null), (545, .aload_n 0, .null), (546, .iload_n 3, .null), (547, .iconst 1, .int 1), (548, .iadd, .null)] := sblk_of (by decide +kernel)
theorem d_law_549 : decode code 549 = .ok (.iaload, 1) := by decide +kernel
theorem k_law_550_4 : sblk code [(550, .aload_n 0, .null), (551, .iload_n 3, .null), (552, .iconst 2, .int 2), (553, .iadd, .null)] := sblk_of (by decide +kernel)
theorem d_law_554 : decode code 554 = .ok (.iaload, 1) := by decide +kernel
theorem k_law_555_4 : sblk code [(555, .aload_n 0, .null), (556, .iload_n 3, .null), (557, .iconst 3, .int 3), (558, .iadd, .null)] := sblk_of (by decide +kernel)
theorem d_law_559 : decode code 559 = .ok (.iaload, 1) := by decide +kernel
theorem k_law_560_4 : sblk code [(560, .aload_n 0, .null), (561, .iload_n 3, .null), (562, .iconst 4, .int 4), (563, .iadd, .null)] := sblk_of (by decide +kernel)
theorem d_law_564 : decode code 564 = .ok (.iaload, 1) := by decide +kernel
theorem d_law_565 : decode code 565 = .ok (.invokevirtual 59, 3) := by decide +kernel
theorem d_law_568 : decode code 568 = .ok (.lcmp, 1) := by decide +kernel
theorem d_law_569 : decode code 569 = .ok (.ifCond .eq 582, 3) := by decide +kernel
theorem k_law_574_5 : sblk code [(574, .aload_n 1, .null), (575, .aload_n 0, .null), (576, .iload_n 3, .null), (577, .iconst 1, .int 1), (578, .iadd, .null)] := sblk_of (by decide +kernel)
theorem d_law_579 : decode code 579 = .ok (.iaload, 1) := by decide +kernel
theorem k_law_580_4 : sblk code [(580, .aload_n 0, .null), (581, .iload_n 3, .null), (582, .iconst 2, .int 2), (583, .iadd, .null)] := sblk_of (by decide +kernel)
theorem d_law_584 : decode code 584 = .ok (.iaload, 1) := by decide +kernel
theorem d_law_585 : decode code 585 = .ok (.invokevirtual 60, 3) := by decide +kernel
theorem k_law_588_5 : sblk code [(588, .aload_n 2, .null), (589, .aload_n 0, .null), (590, .iload_n 3, .null), (591, .iconst 1, .int 1), (592, .iadd, .null)] := sblk_of (by decide +kernel)
theorem d_law_593 : decode code 593 = .ok (.iaload, 1) := by decide +kernel
theorem k_law_594_4 : sblk code [(594, .aload_n 0, .null), (595, .iload_n 3, .null), (596, .iconst 2, .int 2), (597, .iadd, .null)] := sblk_of (by decide +kernel)
theorem d_law_598 : decode code 598 = .ok (.iaload, 1) := by decide +kernel
theorem d_law_599 : decode code 599 = .ok (.invokevirtual 63, 3) := by decide +kernel
theorem d_law_602 : decode code 602 = .ok (.if_icmp .eq 549, 3) := by decide +kernel
theorem k_law_607_5 : sblk code [(607, .aload_n 1, .null), (608, .aload_n 0, .null), (609, .iload_n 3, .null), (610, .iconst 1, .int 1), (611, .iadd, .null)] := sblk_of (by decide +kernel)
theorem d_law_612 : decode code 612 = .ok (.iaload, 1) := by decide +kernel
theorem k_law_613_4 : sblk code [(613, .aload_n 0, .null), (614, .iload_n 3, .null), (615, .iconst 2, .int 2), (616, .iadd, .null)] := sblk_of (by decide +kernel)
theorem d_law_617 : decode code 617 = .ok (.iaload, 1) := by decide +kernel
theorem k_law_618_4 : sblk code [(618, .aload_n 0, .null), (619, .iload_n 3, .null), (620, .iconst 3, .int 3), (621, .iadd, .null)] := sblk_of (by decide +kernel)
theorem d_law_622 : decode code 622 = .ok (.iaload, 1) := by decide +kernel
theorem d_law_623 : decode code 623 = .ok (.invokevirtual 64, 3) := by decide +kernel
theorem k_law_626_5 : sblk code [(626, .aload_n 2, .null), (627, .aload_n 0, .null), (628, .iload_n 3, .null), (629, .iconst 1, .int 1), (630, .iadd, .null)] := sblk_of (by decide +kernel)
theorem d_law_631 : decode code 631 = .ok (.iaload, 1) := by decide +kernel
theorem k_law_632_4 : sblk code [(632, .aload_n 0, .null), (633, .iload_n 3, .null), (634, .iconst 2, .int 2), (635, .iadd, .null)] := sblk_of (by decide +kernel)
theorem d_law_636 : decode code 636 = .ok (.iaload, 1) := by decide +kernel
theorem k_law_637_4 : sblk code [(637, .aload_n 0, .null), (638, .iload_n 3, .null), (639, .iconst 3, .int 3), (640, .iadd, .null)] := sblk_of (by decide +kernel)
theorem d_law_641 : decode code 641 = .ok (.iaload, 1) := by decide +kernel
theorem d_law_642 : decode code 642 = .ok (.invokevirtual 67, 3) := by decide +kernel
theorem d_law_645 : decode code 645 = .ok (.if_icmp .eq 506, 3) := by decide +kernel
theorem k_law_650_5 : sblk code [(650, .aload_n 1, .null), (651, .aload_n 0, .null), (652, .iload_n 3, .null), (653, .iconst 1, .int 1), (654, .iadd, .null)] := sblk_of (by decide +kernel)
theorem d_law_655 : decode code 655 = .ok (.iaload, 1) := by decide +kernel
theorem k_law_656_4 : sblk code [(656, .aload_n 0, .null), (657, .iload_n 3, .null), (658, .iconst 2, .int 2), (659, .iadd, .null)] := sblk_of (by decide +kernel)
theorem d_law_660 : decode code 660 = .ok (.iaload, 1) := by decide +kernel
theorem d_law_661 : decode code 661 = .ok (.invokevirtual 68, 3) := by decide +kernel
theorem k_law_664_5 : sblk code [(664, .aload_n 2, .null), (665, .aload_n 0, .null), (666, .iload_n 3, .null), (667, .iconst 1, .int 1), (668, .iadd, .null)] := sblk_of (by decide +kernel)
theorem d_law_669 : decode code 669 = .ok (.iaload, 1) := by decide +kernel
theorem k_law_670_4 : sblk code [(670, .aload_n 0, .null), (671, .iload_n 3, .null), (672, .iconst 2, .int 2), (673, .iadd, .null)] := sblk_of (by decide +kernel)
theorem d_law_674 : decode code 674 = .ok (.iaload, 1) := by decide +kernel
theorem d_law_675 : decode code 675 = .ok (.invokevirtual 71, 3) := by decide +kernel
theorem d_law_678 : decode code 678 = .ok (.if_icmp .eq 473, 3) := by decide +kernel
theorem k_law_683_5 : sblk code [(683, .aload_n 1, .null), (684, .aload_n 0, .null), (685, .iload_n 3, .null), (686, .iconst 1, .int 1), (687, .iadd, .null)] := sblk_of (by decide +kernel)
theorem d_law_688 : decode code 688 = .ok (.iaload, 1) := by decide +kernel
theorem k_law_689_4 : sblk code [(689, .aload_n 0, .null), (690, .iload_n 3, .null), (691, .iconst 2, .int 2), (692, .iadd, .null)] := sblk_of (by decide +kernel)
theorem d_law_693 : decode code 693 = .ok (.iaload, 1) := by decide +kernel
theorem d_law_694 : decode code 694 = .ok (.invokevirtual 72, 3) := by decide +kernel
theorem k_law_697_5 : sblk code [(697, .aload_n 2, .null), (698, .aload_n 0, .null), (699, .iload_n 3, .null), (700, .iconst 1, .int 1), (701, .iadd, .null)] := sblk_of (by decide +kernel)
theorem d_law_702 : decode code 702 = .ok (.iaload, 1) := by decide +kernel
theorem k_law_703_4 : sblk code [(703, .aload_n 0, .null), (704, .iload_n 3, .null), (705, .iconst 2, .int 2), (706, .iadd, .null)] := sblk_of (by decide +kernel)
theorem d_law_707 : decode code 707 = .ok (.iaload, 1) := by decide +kernel
theorem d_law_708 : decode code 708 = .ok (.invokevirtual 75, 3) := by decide +kernel
theorem d_law_711 : decode code 711 = .ok (.if_icmp .eq 440, 3) := by decide +kernel
theorem k_law_716_5 : sblk code [(716, .aload_n 1, .null), (717, .aload_n 0, .null), (718, .iload_n 3, .null), (719, .iconst 1, .int 1), (720, .iadd, .null)] := sblk_of (by decide +kernel)
theorem d_law_721 : decode code 721 = .ok (.iaload, 1) := by decide +kernel
theorem k_law_722_4 : sblk code [(722, .aload_n 0, .null), (723, .iload_n 3, .null), (724, .iconst 2, .int 2), (725, .iadd, .null)] := sblk_of (by decide +kernel)
theorem d_law_726 : decode code 726 = .ok (.iaload, 1) := by decide +kernel
theorem d_law_727 : decode code 727 = .ok (.invokevirtual 76, 3) := by decide +kernel
theorem k_law_730_5 : sblk code [(730, .aload_n 2, .null), (731, .aload_n 0, .null), (732, .iload_n 3, .null), (733, .iconst 1, .int 1), (734, .iadd, .null)] := sblk_of (by decide +kernel)
theorem d_law_735 : decode code 735 = .ok (.iaload, 1) := by decide +kernel
theorem k_law_736_4 : sblk code [(736, .aload_n 0, .null), (737, .iload_n 3, .null), (738, .iconst 2, .int 2), (739, .iadd, .null)] := sblk_of (by decide +kernel)
theorem d_law_740 : decode code 740 = .ok (.iaload, 1) := by decide +kernel
theorem d_law_741 : decode code 741 = .ok (.invokevirtual 79, 3) := by decide +kernel
theorem d_law_744 : decode code 744 = .ok (.if_icmp .eq 407, 3) := by decide +kernel
theorem k_law_749_5 : sblk code [(749, .aload_n 1, .null), (750, .aload_n 0, .null), (751, .iload_n 3, .null), (752, .iconst 1, .int 1), (753, .iadd, .null)] := sblk_of (by decide +kernel)
theorem d_law_754 : decode code 754 = .ok (.iaload, 1) := by decide +kernel
theorem k_law_755_4 : sblk code [(755, .aload_n 0, .null), (756, .iload_n 3, .null), (757, .iconst 2, .int 2), (758, .iadd, .null)] := sblk_of (by decide +kernel)
theorem d_law_759 : decode code 759 = .ok (.iaload, 1) := by decide +kernel
theorem d_law_760 : decode code 760 = .ok (.invokevirtual 80, 3) := by decide +kernel
theorem k_law_763_5 : sblk code [(763, .aload_n 2, .null), (764, .aload_n 0, .null), (765, .iload_n 3, .null), (766, .iconst 1, .int 1), (767, .iadd, .null)] := sblk_of (by decide +kernel)
theorem d_law_768 : decode code 768 = .ok (.iaload, 1) := by decide +kernel
theorem k_law_769_4 : sblk code [(769, .aload_n 0, .null), (770, .iload_n 3, .null), (771, .iconst 2, .int 2), (772, .iadd, .null)] := sblk_of (by decide +kernel)
theorem d_law_773 : decode code 773 = .ok (.iaload, 1) := by decide +kernel
theorem d_law_774 : decode code 774 = .ok (.invokevirtual 83, 3) := by decide +kernel
theorem d_law_777 : decode code 777 = .ok (.if_icmp .eq 374, 3) := by decide +kernel
theorem k_law_782_5 : sblk code [(782, .aload_n 1, .null), (783, .aload_n 0, .null), (784, .iload_n 3, .null), (785, .iconst 1, .int 1), (786, .iadd, .null)] := sblk_of (by decide +kernel)
theorem d_law_787 : decode code 787 = .ok (.iaload, 1) := by decide +kernel
theorem k_law_788_4 : sblk code [(788, .aload_n 0, .null), (789, .iload_n 3, .null), (790, .iconst 2, .int 2), (791, .iadd, .null)] := sblk_of (by decide +kernel)
theorem d_law_792 : decode code 792 = .ok (.iaload, 1) := by decide +kernel
theorem k_law_793_4 : sblk code [(793, .aload_n 0, .null), (794, .iload_n 3, .null), (795, .iconst 3, .int 3), (796, .iadd, .null)] := sblk_of (by decide +kernel)
theorem d_law_797 : decode code 797 = .ok (.iaload, 1) := by decide +kernel
theorem k_law_798_4 : sblk code [(798, .aload_n 0, .null), (799, .iload_n 3, .null), (800, .iconst 4, .int 4), (801, .iadd, .null)] := sblk_of (by decide +kernel)
theorem d_law_802 : decode code 802 = .ok (.iaload, 1) := by decide +kernel
theorem k_law_803_4 : sblk code [(803, .aload_n 0, .null), (804, .iload_n 3, .null), (805, .iconst 5, .int 5), (806, .iadd, .null)] := sblk_of (by decide +kernel)
theorem d_law_807 : decode code 807 = .ok (.iaload, 1) := by decide +kernel
theorem k_law_808_4 : sblk code [(808, .aload_n 0, .null), (809, .iload_n 3, .null), (810, .bipush 6, .int 6), (812, .iadd, .null)] := sblk_of (by decide +kernel)
theorem d_law_813 : decode code 813 = .ok (.iaload, 1) := by decide +kernel
theorem d_law_814 : decode code 814 = .ok (.invokevirtual 84, 3) := by decide +kernel
theorem k_law_817_5 : sblk code [(817, .aload_n 2, .null), (818, .aload_n 0, .null), (819, .iload_n 3, .null), (820, .iconst 1, .int 1), (821, .iadd, .null)] := sblk_of (by decide +kernel)
theorem d_law_822 : decode code 822 = .ok (.iaload, 1) := by decide +kernel
theorem k_law_823_4 : sblk code [(823, .aload_n 0, .null), (824, .iload_n 3, .null), (825, .iconst 2, .int 2), (826, .iadd, .null)] := sblk_of (by decide +kernel)
theorem d_law_827 : decode code 827 = .ok (.iaload, 1) := by decide +kernel
theorem k_law_828_4 : sblk code [(828, .aload_n 0, .null), (829, .iload_n 3, .null), (830, .iconst 3, .int 3), (831, .iadd, .null)] := sblk_of (by decide +kernel)
theorem d_law_832 : decode code 832 = .ok (.iaload, 1) := by decide +kernel
theorem k_law_833_4 : sblk code [(833, .aload_n 0, .null), (834, .iload_n 3, .null), (835, .iconst 4, .int 4), (836, .iadd, .null)] := sblk_of (by decide +kernel)
theorem d_law_837 : decode code 837 = .ok (.iaload, 1) := by decide +kernel
theorem k_law_838_4 : sblk code [(838, .aload_n 0, .null), (839, .iload_n 3, .null), (840, .iconst 5, .int 5), (841, .iadd, .null)] := sblk_of (by decide +kernel)
theorem d_law_842 : decode code 842 = .ok (.iaload, 1) := by decide +kernel
theorem k_law_843_4 : sblk code [(843, .aload_n 0, .null), (844, .iload_n 3, .null), (845, .bipush 6, .int 6), (847, .iadd, .null)] := sblk_of (by decide +kernel)
theorem d_law_848 : decode code 848 = .ok (.iaload, 1) := by decide +kernel
theorem d_law_849 : decode code 849 = .ok (.invokevirtual 87, 3) := by decide +kernel
theorem d_law_852 : decode code 852 = .ok (.if_icmp .eq 299, 3) := by decide +kernel
theorem k_law_857_5 : sblk code [(857, .aload_n 1, .null), (858, .aload_n 0, .null), (859, .iload_n 3, .null), (860, .iconst 1, .int 1), (861, .iadd, .null)] := sblk_of (by decide +kernel)
theorem d_law_862 : decode code 862 = .ok (.iaload, 1) := by decide +kernel
theorem k_law_863_4 : sblk code [(863, .aload_n 0, .null), (864, .iload_n 3, .null), (865, .iconst 2, .int 2), (866, .iadd, .null)] := sblk_of (by decide +kernel)
theorem d_law_867 : decode code 867 = .ok (.iaload, 1) := by decide +kernel
theorem k_law_868_4 : sblk code [(868, .aload_n 0, .null), (869, .iload_n 3, .null), (870, .iconst 3, .int 3), (871, .iadd, .null)] := sblk_of (by decide +kernel)
theorem d_law_872 : decode code 872 = .ok (.iaload, 1) := by decide +kernel
theorem k_law_873_4 : sblk code [(873, .aload_n 0, .null), (874, .iload_n 3, .null), (875, .iconst 4, .int 4), (876, .iadd, .null)] := sblk_of (by decide +kernel)
theorem d_law_877 : decode code 877 = .ok (.iaload, 1) := by decide +kernel
theorem d_law_878 : decode code 878 = .ok (.invokevirtual 88, 3) := by decide +kernel
theorem k_law_881_5 : sblk code [(881, .aload_n 2, .null), (882, .aload_n 0, .null), (883, .iload_n 3, .null), (884, .iconst 1, .int 1), (885, .iadd, .null)] := sblk_of (by decide +kernel)
theorem d_law_886 : decode code 886 = .ok (.iaload, 1) := by decide +kernel
theorem k_law_887_4 : sblk code [(887, .aload_n 0, .null), (888, .iload_n 3, .null), (889, .iconst 2, .int 2), (890, .iadd, .null)] := sblk_of (by decide +kernel)
theorem d_law_891 : decode code 891 = .ok (.iaload, 1) := by decide +kernel
theorem k_law_892_4 : sblk code [(892, .aload_n 0, .null), (893, .iload_n 3, .null), (894, .iconst 3, .int 3), (895, .iadd, .null)] := sblk_of (by decide +kernel)
theorem d_law_896 : decode code 896 = .ok (.iaload, 1) := by decide +kernel
theorem k_law_897_4 : sblk code [(897, .aload_n 0, .null), (898, .iload_n 3, .null), (899, .iconst 4, .int 4), (900, .iadd, .null)] := sblk_of (by decide +kernel)
theorem d_law_901 : decode code 901 = .ok (.iaload, 1) := by decide +kernel
theorem d_law_902 : decode code 902 = .ok (.invokevirtual 92, 3) := by decide +kernel
theorem d_law_905 : decode code 905 = .ok (.if_icmp .eq 246, 3) := by decide +kernel
theorem k_law_910_5 : sblk code [(910, .aload_n 1, .null), (911, .aload_n 0, .null), (912, .iload_n 3, .null), (913, .iconst 1, .int 1), (914, .iadd, .null)] := sblk_of (by decide +kernel)
theorem d_law_915 : decode code 915 = .ok (.iaload, 1) := by decide +kernel
theorem k_law_916_4 : sblk code [(916, .aload_n 0, .null), (917, .iload_n 3, .null), (918, .iconst 2, .int 2), (919, .iadd, .null)] := sblk_of (by decide +kernel)
theorem d_law_920 : decode code 920 = .ok (.iaload, 1) := by decide +kernel
theorem k_law_921_4 : sblk code [(921, .aload_n 0, .null), (922, .iload_n 3, .null), (923, .iconst 3, .int 3), (924, .iadd, .null)] := sblk_of (by decide +kernel)
theorem d_law_925 : decode code 925 = .ok (.iaload, 1) := by decide +kernel
theorem d_law_926 : decode code 926 = .ok (.invokevirtual 93, 3) := by decide +kernel
theorem k_law_929_5 : sblk code [(929, .aload_n 2, .null), (930, .aload_n 0, .null), (931, .iload_n 3, .null), (932, .iconst 1, .int 1), (933, .iadd, .null)] := sblk_of (by decide +kernel)
theorem d_law_934 : decode code 934 = .ok (.iaload, 1) := by decide +kernel
theorem k_law_935_4 : sblk code [(935, .aload_n 0, .null), (936, .iload_n 3, .null), (937, .iconst 2, .int 2), (938, .iadd, .null)] := sblk_of (by decide +kernel)
theorem d_law_939 : decode code 939 = .ok (.iaload, 1) := by decide +kernel
theorem k_law_940_4 : sblk code [(940, .aload_n 0, .null), (941, .iload_n 3, .null), (942, .iconst 3, .int 3), (943, .iadd, .null)] := sblk_of (by decide +kernel)
theorem d_law_944 : decode code 944 = .ok (.iaload, 1) := by decide +kernel
theorem d_law_945 : decode code 945 = .ok (.invokevirtual 96, 3) := by decide +kernel
theorem d_law_948 : decode code 948 = .ok (.if_icmp .eq 203, 3) := by decide +kernel
theorem k_law_953_1 : sblk code [(953, .aload_n 1, .null)] := sblk_of (by decide +kernel)
theorem d_law_954 : decode code 954 = .ok (.invokevirtual 97, 3) := by decide +kernel
theorem k_law_957_1 : sblk code [(957, .aload_n 2, .null)] := sblk_of (by decide +kernel)
theorem d_law_958 : decode code 958 = .ok (.invokevirtual 100, 3) := by decide +kernel
theorem d_law_961 : decode code 961 = .ok (.if_icmp .eq 190, 3) := by decide +kernel
theorem k_law_966_1 : sblk code [(966, .aload_n 1, .null)] := sblk_of (by decide +kernel)
theorem d_law_967 : decode code 967 = .ok (.invokevirtual 101, 3) := by decide +kernel
theorem k_law_970_1 : sblk code [(970, .aload_n 2, .null)] := sblk_of (by decide +kernel)
theorem d_law_971 : decode code 971 = .ok (.invokevirtual 104, 3) := by decide +kernel
theorem d_law_974 : decode code 974 = .ok (.if_icmp .eq 177, 3) := by decide +kernel
theorem k_law_979_5 : sblk code [(979, .aload_n 1, .null), (980, .aload_n 0, .null), (981, .iload_n 3, .null), (982, .iconst 1, .int 1), (983, .iadd, .null)] := sblk_of (by decide +kernel)
theorem d_law_984 : decode code 984 = .ok (.iaload, 1) := by decide +kernel
theorem d_law_985 : decode code 985 = .ok (.invokevirtual 105, 3) := by decide +kernel
theorem k_law_988_5 : sblk code [(988, .aload_n 2, .null), (989, .aload_n 0, .null), (990, .iload_n 3, .null), (991, .iconst 1, .int 1), (992, .iadd, .null)] := sblk_of (by decide +kernel)
theorem d_law_993 : decode code 993 = .ok (.iaload, 1) := by decide +kernel
theorem d_law_994 : decode code 994 = .ok (.invokevirtual 109, 3) := by decide +kernel
theorem d_law_997 : decode code 997 = .ok (.if_icmp .eq 154, 3) := by decide +kernel
theorem k_law_1002_5 : sblk code [(1002, .aload_n 1, .null), (1003, .aload_n 0, .null), (1004, .iload_n 3, .null), (1005, .iconst 1, .int 1), (1006, .iadd, .null)] := sblk_of (by decide +kernel)
theorem d_law_1007 : decode code 1007 = .ok (.iaload, 1) := by decide +kernel
theorem k_law_1008_4 : sblk code [(1008, .aload_n 0, .null), (1009, .iload_n 3, .null), (1010, .iconst 2, .int 2), (1011, .iadd, .null)] := sblk_of (by decide +kernel)
theorem d_law_1012 : decode code 1012 = .ok (.iaload, 1) := by decide +kernel
theorem k_law_1013_4 : sblk code [(1013, .aload_n 0, .null), (1014, .iload_n 3, .null), (1015, .iconst 3, .int 3), (1016, .iadd, .null)] := sblk_of (by decide +kernel)
theorem d_law_1017 : decode code 1017 = .ok (.iaload, 1) := by decide +kernel
theorem d_law_1018 : decode code 1018 = .ok (.invokevirtual 110, 3) := by decide +kernel
theorem k_law_1021_5 : sblk code [(1021, .aload_n 2, .null), (1022, .aload_n 0, .null), (1023, .iload_n 3, .null), (1024, .iconst 1, .int 1), (1025, .iadd, .null)] := sblk_of (by decide +kernel)
theorem d_law_1026 : decode code 1026 = .ok (.iaload, 1) := by decide +kernel
theorem k_law_1027_4 : sblk code [(1027, .aload_n 0, .null), (1028, .iload_n 3, .null), (1029, .iconst 2, .int 2), (1030, .iadd, .null)] := sblk_of (by decide +kernel)
theorem d_law_1031 : decode code 1031 = .ok (.iaload, 1) := by decide +kernel
theorem k_law_1032_4 : sblk code [(1032, .aload_n 0, .null), (1033, .iload_n 3, .null), (1034, .iconst 3, .int 3), (1035, .iadd, .null)] := sblk_of (by decide +kernel)
theorem d_law_1036 : decode code 1036 = .ok (.iaload, 1) := by decide +kernel
theorem d_law_1037 : decode code 1037 = .ok (.invokevirtual 113, 3) := by decide +kernel
theorem d_law_1040 : decode code 1040 = .ok (.if_icmp .eq 111, 3) := by decide +kernel
theorem k_law_1045_5 : sblk code [(1045, .aload_n 1, .null), (1046, .aload_n 0, .null), (1047, .iload_n 3, .null), (1048, .iconst 1, .int 1), (1049, .iadd, .null)] := sblk_of (by decide +kernel)
theorem d_law_1050 : decode code 1050 = .ok (.iaload, 1) := by decide +kernel
theorem k_law_1051_4 : sblk code [(1051, .aload_n 0, .null), (1052, .iload_n 3, .null), (1053, .iconst 2, .int 2), (1054, .iadd, .null)] := sblk_of (by decide +kernel)
theorem d_law_1055 : decode code 1055 = .ok (.iaload, 1) := by decide +kernel
theorem k_law_1056_4 : sblk code [(1056, .aload_n 0, .null), (1057, .iload_n 3, .null), (1058, .iconst 3, .int 3), (1059, .iadd, .null)] := sblk_of (by decide +kernel)
theorem d_law_1060 : decode code 1060 = .ok (.iaload, 1) := by decide +kernel
theorem d_law_1061 : decode code 1061 = .ok (.invokevirtual 114, 3) := by decide +kernel
theorem k_law_1064_5 : sblk code [(1064, .aload_n 2, .null), (1065, .aload_n 0, .null), (1066, .iload_n 3, .null), (1067, .iconst 1, .int 1), (1068, .iadd, .null)] := sblk_of (by decide +kernel)
theorem d_law_1069 : decode code 1069 = .ok (.iaload, 1) := by decide +kernel
theorem k_law_1070_4 : sblk code [(1070, .aload_n 0, .null), (1071, .iload_n 3, .null), (1072, .iconst 2, .int 2), (1073, .iadd, .null)] := sblk_of (by decide +kernel)
theorem d_law_1074 : decode code 1074 = .ok (.iaload, 1) := by decide +kernel
theorem k_law_1075_4 : sblk code [(1075, .aload_n 0, .null), (1076, .iload_n 3, .null), (1077, .iconst 3, .int 3), (1078, .iadd, .null)] := sblk_of (by decide +kernel)
theorem d_law_1079 : decode code 1079 = .ok (.iaload, 1) := by decide +kernel
theorem d_law_1080 : decode code 1080 = .ok (.invokevirtual 117, 3) := by decide +kernel
theorem d_law_1083 : decode code 1083 = .ok (.if_icmp .eq 68, 3) := by decide +kernel
theorem k_law_1088_5 : sblk code [(1088, .aload_n 1, .null), (1089, .aload_n 0, .null), (1090, .iload_n 3, .null), (1091, .iconst 1, .int 1), (1092, .iadd, .null)] := sblk_of (by decide +kernel)
theorem d_law_1093 : decode code 1093 = .ok (.iaload, 1) := by decide +kernel
theorem k_law_1094_4 : sblk code [(1094, .aload_n 0, .null), (1095, .iload_n 3, .null), (1096, .iconst 2, .int 2), (1097, .iadd, .null)] := sblk_of (by decide +kernel)
theorem d_law_1098 : decode code 1098 = .ok (.iaload, 1) := by decide +kernel
theorem k_law_1099_4 : sblk code [(1099, .aload_n 0, .null), (1100, .iload_n 3, .null), (1101, .iconst 3, .int 3), (1102, .iadd, .null)] := sblk_of (by decide +kernel)
theorem d_law_1103 : decode code 1103 = .ok (.iaload, 1) := by decide +kernel
theorem k_law_1104_4 : sblk code [(1104, .aload_n 0, .null), (1105, .iload_n 3, .null), (1106, .iconst 4, .int 4), (1107, .iadd, .null)] := sblk_of (by decide +kernel)
theorem d_law_1108 : decode code 1108 = .ok (.iaload, 1) := by decide +kernel
theorem k_law_1109_4 : sblk code [(1109, .aload_n 0, .null), (1110, .iload_n 3, .null), (1111, .iconst 5, .int 5), (1112, .iadd, .null)] := sblk_of (by decide +kernel)
theorem d_law_1113 : decode code 1113 = .ok (.iaload, 1) := by decide +kernel
theorem d_law_1114 : decode code 1114 = .ok (.invokevirtual 118, 3) := by decide +kernel
theorem k_law_1117_5 : sblk code [(1117, .aload_n 2, .null), (1118, .aload_n 0, .null), (1119, .iload_n 3, .null), (1120, .iconst 1, .int 1), (1121, .iadd, .null)] := sblk_of (by decide +kernel)
theorem d_law_1122 : decode code 1122 = .ok (.iaload, 1) := by decide +kernel
theorem k_law_1123_4 : sblk code [(1123, .aload_n 0, .null), (1124, .iload_n 3, .null), (1125, .iconst 2, .int 2), (1126, .iadd, .null)] := sblk_of (by decide +kernel)
theorem d_law_1127 : decode code 1127 = .ok (.iaload, 1) := by decide +kernel
theorem k_law_1128_4 : sblk code [(1128, .aload_n 0, .null), (1129, .iload_n 3, .null), (1130, .iconst 3, .int 3), (1131, .iadd, .null)] := sblk_of (by decide +kernel)
theorem d_law_1132 : decode code 1132 = .ok (.iaload, 1) := by decide +kernel
theorem k_law_1133_4 : sblk code [(1133, .aload_n 0, .null), (1134, .iload_n 3, .null), (1135, .iconst 4, .int 4), (1136, .iadd, .null)] := sblk_of (by decide +kernel)
theorem d_law_1137 : decode code 1137 = .ok (.iaload, 1) := by decide +kernel
theorem k_law_1138_4 : sblk code [(1138, .aload_n 0, .null), (1139, .iload_n 3, .null), (1140, .iconst 5, .int 5), (1141, .iadd, .null)] := sblk_of (by decide +kernel)
theorem d_law_1142 : decode code 1142 = .ok (.iaload, 1) := by decide +kernel
theorem d_law_1143 : decode code 1143 = .ok (.invokevirtual 122, 3) := by decide +kernel
theorem d_law_1146 : decode code 1146 = .ok (.if_icmp .eq 5, 3) := by decide +kernel
set_option maxHeartbeats 4000000 in
theorem lawc_0 {g : jG} {D : va_G} {b : Nat} {xs : Nat → Int32} {w : jW} {x m q : Nat} (E : lawE g D b 7 xs) (SX : lawX D w x (fun a => a < q)) (SM : lawM D w m (fun a => q ≤ a)) (hc : w.2.1 ≤ 810 ∧ w.2.2 ≤ 129790)
    (kk : ∀ w9 : jW, w9.2.1 ≤ 1000 ∧ w9.2.2 ≤ 200000 → JJ g w9 1151 [(3, .int 0), (2, .ref m), (1, .ref x), (0, .ref b)] []) : JJ g w 148 [(3, .int 0), (2, .ref m), (1, .ref x), (0, .ref b)] [] := by
  obtain ⟨C, Rm, hX, hbl, -⟩ := E
  have Y : jY g (jGl g) (jGB g) (jGH g) (jGy g) := ⟨rfl, rfl, rfl, rfl⟩
  obtain ⟨V, tp, pg, sh, rd, F, Vr, hx, h0, h1, h2, h3, h4, h5, h8, h9, ht, hpg, hsh, hrd, ⟨px, ptp, ppg, psh, prd⟩, hs⟩ := SX
  refine j_blk 153 [(3, .int 0), (2, .ref m), (1, .ref x), (0, .ref b)] [.int 1, .ref b, .ref x] C k_law_148_5 rfl ?_
  refine j_sld C hX hbl 1 (by decide) (jin (by decide) (by decide)) d_law_153 ?_
  refine j_blk 158 [(3, .int 0), (2, .ref m), (1, .ref x), (0, .ref b)] [.int 2, .ref b, .int (xs 1), .ref x] C k_law_154_4 rfl ?_
  refine j_sld C hX hbl 2 (by decide) (jin (by decide) (by decide)) d_law_158 ?_
  refine j_blk 163 [(3, .int 0), (2, .ref m), (1, .ref x), (0, .ref b)] [.int 3, .ref b, .int (xs 2), .int (xs 1), .ref x] C k_law_159_4 rfl ?_
  refine j_sld C hX hbl 3 (by decide) (jin (by decide) (by decide)) d_law_163 ?_
  refine j_blk 168 [(3, .int 0), (2, .ref m), (1, .ref x), (0, .ref b)] [.int 4, .ref b, .int (xs 3), .int (xs 2), .int (xs 1), .ref x] C k_law_164_4 rfl ?_
  refine j_sld C hX hbl 4 (by decide) (jin (by decide) (by decide)) d_law_168 ?_
  refine j_blk 173 [(3, .int 0), (2, .ref m), (1, .ref x), (0, .ref b)] [.int 5, .ref b, .int (xs 4), .int (xs 3), .int (xs 2), .int (xs 1), .ref x] C k_law_169_4 rfl ?_
  refine j_sld C hX hbl 5 (by decide) (jin (by decide) (by decide)) d_law_173 ?_
  refine j_blk 179 [(3, .int 0), (2, .ref m), (1, .ref x), (0, .ref b)] [.int 6, .ref b, .int (xs 5), .int (xs 4), .int (xs 3), .int (xs 2), .int (xs 1), .ref x] C k_law_174_4 rfl ?_
  refine j_sld C hX hbl 6 (by decide) (jin (by decide) (by decide)) d_law_179 ?_
  refine j_callVB (mc := 0) (ms := 0) C Rm Y [.int (xs 1), .int (xs 2), .int (xs 3), .int (xs 4), .int (xs 5), .int (xs 6)] [] (c_CS_feed (jGl g) D (jGB g) (jGH g) w x tp V (xs 1) (xs 2) (xs 3) (xs 4) (xs 5) (xs 6) hx h0 h1 ht q px ptp) cl_Law_13 (by rfl) (by rfl) hx d_law_180 rfl rfl (Nat.le_of_ble_eq_true rfl) ⟨Nat.le_of_ble_eq_true rfl, Nat.le_of_ble_eq_true rfl⟩ ⟨by have := hc.1; show _ ≤ 0 + 600000; omega, by have := hc.2; show _ ≤ 0 + 7302250; omega⟩ (fun v1 w1 p1 b1 => ?_)
  obtain ⟨rfl, fr1⟩ := p1
  have hc2 : w1.2.1 ≤ 900 ∧ w1.2.2 ≤ 150000 := ⟨by have := hc.1; have := b1.1; omega, by have := hc.2; have := b1.2; omega⟩
  have SM := SM.mono (fun a e ha pa => ⟨(fr1 a e ha).1 pa, pa⟩)
  show JJ g w1 183 [(3, .int 0), (2, .ref m), (1, .ref x), (0, .ref b)] [.int (an_feed (xs 1) (xs 2) (xs 3) (xs 4) (xs 5) (xs 6))]
  refine j_blk 188 [(3, .int 0), (2, .ref m), (1, .ref x), (0, .ref b)] [.int 1, .ref b, .ref m, .int (an_feed (xs 1) (xs 2) (xs 3) (xs 4) (xs 5) (xs 6))] C k_law_183_5 rfl ?_
  refine j_sld C hX hbl 1 (by decide) (jin (by decide) (by decide)) d_law_188 ?_
  refine j_blk 193 [(3, .int 0), (2, .ref m), (1, .ref x), (0, .ref b)] [.int 2, .ref b, .int (xs 1), .ref m, .int (an_feed (xs 1) (xs 2) (xs 3) (xs 4) (xs 5) (xs 6))] C k_law_189_4 rfl ?_
  refine j_sld C hX hbl 2 (by decide) (jin (by decide) (by decide)) d_law_193 ?_
  refine j_blk 198 [(3, .int 0), (2, .ref m), (1, .ref x), (0, .ref b)] [.int 3, .ref b, .int (xs 2), .int (xs 1), .ref m, .int (an_feed (xs 1) (xs 2) (xs 3) (xs 4) (xs 5) (xs 6))] C k_law_194_4 rfl ?_
  refine j_sld C hX hbl 3 (by decide) (jin (by decide) (by decide)) d_law_198 ?_
  refine j_blk 203 [(3, .int 0), (2, .ref m), (1, .ref x), (0, .ref b)] [.int 4, .ref b, .int (xs 3), .int (xs 2), .int (xs 1), .ref m, .int (an_feed (xs 1) (xs 2) (xs 3) (xs 4) (xs 5) (xs 6))] C k_law_199_4 rfl ?_
  refine j_sld C hX hbl 4 (by decide) (jin (by decide) (by decide)) d_law_203 ?_
  refine j_blk 208 [(3, .int 0), (2, .ref m), (1, .ref x), (0, .ref b)] [.int 5, .ref b, .int (xs 4), .int (xs 3), .int (xs 2), .int (xs 1), .ref m, .int (an_feed (xs 1) (xs 2) (xs 3) (xs 4) (xs 5) (xs 6))] C k_law_204_4 rfl ?_
  refine j_sld C hX hbl 5 (by decide) (jin (by decide) (by decide)) d_law_208 ?_
  refine j_blk 214 [(3, .int 0), (2, .ref m), (1, .ref x), (0, .ref b)] [.int 6, .ref b, .int (xs 5), .int (xs 4), .int (xs 3), .int (xs 2), .int (xs 1), .ref m, .int (an_feed (xs 1) (xs 2) (xs 3) (xs 4) (xs 5) (xs 6))] C k_law_209_4 rfl ?_
  refine j_sld C hX hbl 6 (by decide) (jin (by decide) (by decide)) d_law_214 ?_
  obtain ⟨Vm, mst, mtp, mim, mso, mln, mit, mfS, hm, m0, m17, m21, m22, m37, m38, m39, m40, m41, hst, mt, him, hso, hfS, hln, hit, hrw, msl, msi, -⟩ := SM
  refine j_callVB (mc := 0) (ms := 0) C Rm Y [.int (xs 1), .int (xs 2), .int (xs 3), .int (xs 4), .int (xs 5), .int (xs 6)] [.int (an_feed (xs 1) (xs 2) (xs 3) (xs 4) (xs 5) (xs 6))] (c_Mo_feed (jGl g) D (jGB g) (jGH g) w1 m mtp Vm (xs 1) (xs 2) (xs 3) (xs 4) (xs 5) (xs 6) hm m21 m22 mt (m + mtp + 1) (by omega) (by omega)) cl_Law_17 (by rfl) (by rfl) hm d_law_215 rfl rfl (Nat.le_of_ble_eq_true rfl) ⟨Nat.le_of_ble_eq_true rfl, Nat.le_of_ble_eq_true rfl⟩ ⟨by have := hc2.1; show _ ≤ 0 + 600000; omega, by have := hc2.2; show _ ≤ 0 + 7302250; omega⟩ (fun v2 w2 p2 b2 => ?_)
  obtain ⟨rfl, -⟩ := p2
  have hc3 : w2.2.1 ≤ 1000 ∧ w2.2.2 ≤ 200000 := ⟨by have := hc2.1; have := b2.1; omega, by have := hc2.2; have := b2.2; omega⟩
  show JJ g w2 218 [(3, .int 0), (2, .ref m), (1, .ref x), (0, .ref b)] [.int (an_feed (xs 1) (xs 2) (xs 3) (xs 4) (xs 5) (xs 6)), .int (an_feed (xs 1) (xs 2) (xs 3) (xs 4) (xs 5) (xs 6))]
  refine j_icmp_eq (tgt := 1151) C d_law_218 (by decide) (fun c1 => ?_) (fun c1 => absurd rfl c1)
  exact kk w2 ⟨Nat.le_trans hc3.1 (by decide), Nat.le_trans hc3.2 (by decide)⟩
set_option maxHeartbeats 4000000 in
theorem lawc_1 {g : jG} {D : va_G} {b : Nat} {xs : Nat → Int32} {w : jW} {x m q : Nat} (E : lawE g D b 7 xs) (SX : lawX D w x (fun a => a < q)) (SM : lawM D w m (fun a => q ≤ a)) (hc : w.2.1 ≤ 810 ∧ w.2.2 ≤ 129790)
    (kk : ∀ w9 : jW, w9.2.1 ≤ 1000 ∧ w9.2.2 ≤ 200000 → JJ g w9 1151 [(3, .int 0), (2, .ref m), (1, .ref x), (0, .ref b)] []) : JJ g w 223 [(3, .int 0), (2, .ref m), (1, .ref x), (0, .ref b)] [] := by
  obtain ⟨C, Rm, hX, hbl, -⟩ := E
  have Y : jY g (jGl g) (jGB g) (jGH g) (jGy g) := ⟨rfl, rfl, rfl, rfl⟩
  obtain ⟨V, tp, pg, sh, rd, F, Vr, hx, h0, h1, h2, h3, h4, h5, h8, h9, ht, hpg, hsh, hrd, ⟨px, ptp, ppg, psh, prd⟩, hs⟩ := SX
  refine j_blk 224 [(3, .int 0), (2, .ref m), (1, .ref x), (0, .ref b)] [.ref x] C k_law_223_1 rfl ?_
  refine j_callVB (mc := 26) (ms := 739) C Rm Y [] [] (c_CS_program (jGl g) D (jGB g) (jGH g) w x tp pg rd q V Vr hx h0 h1 h2 h3 h9 ht hpg hrd px ppg prd) cl_Law_18 (by rfl) (by rfl) hx d_law_224 rfl rfl (Nat.le_of_ble_eq_true rfl) ⟨Nat.le_of_ble_eq_true rfl, Nat.le_of_ble_eq_true rfl⟩ ⟨by have := hc.1; show _ ≤ 0 + 600000; omega, by have := hc.2; show _ ≤ 0 + 7302250; omega⟩ (fun v1 w1 p1 b1 => ?_)
  obtain ⟨rfl, -, fr1⟩ := p1
  have hc2 : w1.2.1 ≤ 900 ∧ w1.2.2 ≤ 150000 := ⟨by have := hc.1; have := b1.1; omega, by have := hc.2; have := b1.2; omega⟩
  have SM := SM.mono (fun a e ha pa => ⟨(fr1 a e ha).1 pa, pa⟩)
  show JJ g w1 227 [(3, .int 0), (2, .ref m), (1, .ref x), (0, .ref b)] [.int (-100)]
  refine j_blk 228 [(3, .int 0), (2, .ref m), (1, .ref x), (0, .ref b)] [.ref m, .int (-100)] C k_law_227_1 rfl ?_
  obtain ⟨Vm, mst, mtp, mim, mso, mln, mit, mfS, hm, m0, m17, m21, m22, m37, m38, m39, m40, m41, hst, mt, him, hso, hfS, hln, hit, hrw, msl, msi, -⟩ := SM
  refine j_callVB (mc := 0) (ms := 0) C Rm Y [] [.int (-100)] (c_Mo_program0 (jGl g) D (jGB g) (jGH g) w1 m Vm hm m0 m22) cl_Law_22 (by rfl) (by rfl) hm d_law_228 rfl rfl (Nat.le_of_ble_eq_true rfl) ⟨Nat.le_of_ble_eq_true rfl, Nat.le_of_ble_eq_true rfl⟩ ⟨by have := hc2.1; show _ ≤ 0 + 600000; omega, by have := hc2.2; show _ ≤ 0 + 7302250; omega⟩ (fun v2 w2 p2 b2 => ?_)
  obtain ⟨rfl, -⟩ := p2
  have hc3 : w2.2.1 ≤ 1000 ∧ w2.2.2 ≤ 200000 := ⟨by have := hc2.1; have := b2.1; omega, by have := hc2.2; have := b2.2; omega⟩
  show JJ g w2 231 [(3, .int 0), (2, .ref m), (1, .ref x), (0, .ref b)] [.int (-100), .int (-100)]
  refine j_icmp_eq (tgt := 1151) C d_law_231 (by decide) (fun c1 => ?_) (fun c1 => absurd (by decide) c1)
  exact kk w2 ⟨Nat.le_trans hc3.1 (by decide), Nat.le_trans hc3.2 (by decide)⟩
set_option maxHeartbeats 4000000 in
theorem lawc_2 {g : jG} {D : va_G} {b : Nat} {xs : Nat → Int32} {w : jW} {x m q : Nat} (E : lawE g D b 7 xs) (SX : lawX D w x (fun a => a < q)) (SM : lawM D w m (fun a => q ≤ a)) (hc : w.2.1 ≤ 810 ∧ w.2.2 ≤ 129790)
    (kk : ∀ w9 : jW, w9.2.1 ≤ 1000 ∧ w9.2.2 ≤ 200000 → JJ g w9 1151 [(3, .int 0), (2, .ref m), (1, .ref x), (0, .ref b)] []) : JJ g w 236 [(3, .int 0), (2, .ref m), (1, .ref x), (0, .ref b)] [] := by
  obtain ⟨C, Rm, hX, hbl, -⟩ := E
  have Y : jY g (jGl g) (jGB g) (jGH g) (jGy g) := ⟨rfl, rfl, rfl, rfl⟩
  obtain ⟨V, tp, pg, sh, rd, F, Vr, hx, h0, h1, h2, h3, h4, h5, h8, h9, ht, hpg, hsh, hrd, ⟨px, ptp, ppg, psh, prd⟩, hs⟩ := SX
  refine j_blk 241 [(3, .int 0), (2, .ref m), (1, .ref x), (0, .ref b)] [.int 1, .ref b, .ref x] C k_law_236_5 rfl ?_
  refine j_sld C hX hbl 1 (by decide) (jin (by decide) (by decide)) d_law_241 ?_
  refine j_blk 246 [(3, .int 0), (2, .ref m), (1, .ref x), (0, .ref b)] [.int 2, .ref b, .int (xs 1), .ref x] C k_law_242_4 rfl ?_
  refine j_sld C hX hbl 2 (by decide) (jin (by decide) (by decide)) d_law_246 ?_
  refine j_callVB (mc := 0) (ms := 0) C Rm Y [.int (xs 1), .int (xs 2)] [] (c_CS_let (jGl g) D (jGB g) (jGH g) w x V (xs 1) (xs 2) hx h4 q px) cl_Law_23 (by rfl) (by rfl) hx d_law_247 rfl rfl (Nat.le_of_ble_eq_true rfl) ⟨Nat.le_of_ble_eq_true rfl, Nat.le_of_ble_eq_true rfl⟩ ⟨by have := hc.1; show _ ≤ 0 + 600000; omega, by have := hc.2; show _ ≤ 0 + 7302250; omega⟩ (fun v1 w1 p1 b1 => ?_)
  obtain ⟨rfl, fr1⟩ := p1
  have hc2 : w1.2.1 ≤ 900 ∧ w1.2.2 ≤ 150000 := ⟨by have := hc.1; have := b1.1; omega, by have := hc.2; have := b1.2; omega⟩
  have SM := SM.mono (fun a e ha pa => ⟨(fr1 a e ha).1 pa, pa⟩)
  show JJ g w1 250 [(3, .int 0), (2, .ref m), (1, .ref x), (0, .ref b)] [.int (an_let (xs 1) (xs 2))]
  refine j_blk 255 [(3, .int 0), (2, .ref m), (1, .ref x), (0, .ref b)] [.int 1, .ref b, .ref m, .int (an_let (xs 1) (xs 2))] C k_law_250_5 rfl ?_
  refine j_sld C hX hbl 1 (by decide) (jin (by decide) (by decide)) d_law_255 ?_
  refine j_blk 260 [(3, .int 0), (2, .ref m), (1, .ref x), (0, .ref b)] [.int 2, .ref b, .int (xs 1), .ref m, .int (an_let (xs 1) (xs 2))] C k_law_256_4 rfl ?_
  refine j_sld C hX hbl 2 (by decide) (jin (by decide) (by decide)) d_law_260 ?_
  obtain ⟨Vm, mst, mtp, mim, mso, mln, mit, mfS, hm, m0, m17, m21, m22, m37, m38, m39, m40, m41, hst, mt, him, hso, hfS, hln, hit, hrw, msl, msi, -⟩ := SM
  refine j_callVB (mc := 0) (ms := 0) C Rm Y [.int (xs 1), .int (xs 2)] [.int (an_let (xs 1) (xs 2))] (c_Mo_let_0 (jGl g) D (jGB g) (jGH g) w1 m Vm (xs 1) (xs 2) mst hm m17 hst (m + mst + 1) (by omega) (by omega)) cl_Law_27 (by rfl) (by rfl) hm d_law_261 rfl rfl (Nat.le_of_ble_eq_true rfl) ⟨Nat.le_of_ble_eq_true rfl, Nat.le_of_ble_eq_true rfl⟩ ⟨by have := hc2.1; show _ ≤ 0 + 600000; omega, by have := hc2.2; show _ ≤ 0 + 7302250; omega⟩ (fun v2 w2 p2 b2 => ?_)
  obtain ⟨rfl, -⟩ := p2
  have hc3 : w2.2.1 ≤ 1000 ∧ w2.2.2 ≤ 200000 := ⟨by have := hc2.1; have := b2.1; omega, by have := hc2.2; have := b2.2; omega⟩
  show JJ g w2 264 [(3, .int 0), (2, .ref m), (1, .ref x), (0, .ref b)] [.int (an_let (xs 1) (xs 2)), .int (an_let (xs 1) (xs 2))]
  refine j_icmp_eq (tgt := 1151) C d_law_264 (by decide) (fun c1 => ?_) (fun c1 => absurd rfl c1)
  exact kk w2 ⟨Nat.le_trans hc3.1 (by decide), Nat.le_trans hc3.2 (by decide)⟩
set_option maxHeartbeats 4000000 in
theorem lawc_3 {g : jG} {D : va_G} {b : Nat} {xs : Nat → Int32} {w : jW} {x m q : Nat} (E : lawE g D b 7 xs) (SX : lawX D w x (fun a => a < q)) (SM : lawM D w m (fun a => q ≤ a)) (hc : w.2.1 ≤ 810 ∧ w.2.2 ≤ 129790)
    (kk : ∀ w9 : jW, w9.2.1 ≤ 1000 ∧ w9.2.2 ≤ 200000 → JJ g w9 1151 [(3, .int 0), (2, .ref m), (1, .ref x), (0, .ref b)] []) : JJ g w 269 [(3, .int 0), (2, .ref m), (1, .ref x), (0, .ref b)] [] := by
  obtain ⟨C, Rm, hX, hbl, -⟩ := E
  have Y : jY g (jGl g) (jGB g) (jGH g) (jGy g) := ⟨rfl, rfl, rfl, rfl⟩
  obtain ⟨V, tp, pg, sh, rd, F, Vr, hx, h0, h1, h2, h3, h4, h5, h8, h9, ht, hpg, hsh, hrd, ⟨px, ptp, ppg, psh, prd⟩, hs⟩ := SX
  refine j_blk 274 [(3, .int 0), (2, .ref m), (1, .ref x), (0, .ref b)] [.int 1, .ref b, .ref x] C k_law_269_5 rfl ?_
  refine j_sld C hX hbl 1 (by decide) (jin (by decide) (by decide)) d_law_274 ?_
  refine j_blk 279 [(3, .int 0), (2, .ref m), (1, .ref x), (0, .ref b)] [.int 2, .ref b, .int (xs 1), .ref x] C k_law_275_4 rfl ?_
  refine j_sld C hX hbl 2 (by decide) (jin (by decide) (by decide)) d_law_279 ?_
  refine j_callVB (mc := 0) (ms := 0) C Rm Y [.int (xs 1), .int (xs 2)] [] (c_CS_told (jGl g) D (jGB g) (jGH g) w x V (xs 1) (xs 2) hx h3) cl_Law_28 (by rfl) (by rfl) hx d_law_280 rfl rfl (Nat.le_of_ble_eq_true rfl) ⟨Nat.le_of_ble_eq_true rfl, Nat.le_of_ble_eq_true rfl⟩ ⟨by have := hc.1; show _ ≤ 0 + 600000; omega, by have := hc.2; show _ ≤ 0 + 7302250; omega⟩ (fun v1 w1 p1 b1 => ?_)
  obtain ⟨rfl, rfl⟩ := p1
  have hc2 : w.2.1 ≤ 900 ∧ w.2.2 ≤ 150000 := ⟨by have := hc.1; omega, by have := hc.2; omega⟩
  show JJ g w 283 [(3, .int 0), (2, .ref m), (1, .ref x), (0, .ref b)] [.int (-2)]
  refine j_blk 288 [(3, .int 0), (2, .ref m), (1, .ref x), (0, .ref b)] [.int 1, .ref b, .ref m, .int (-2)] C k_law_283_5 rfl ?_
  refine j_sld C hX hbl 1 (by decide) (jin (by decide) (by decide)) d_law_288 ?_
  refine j_blk 293 [(3, .int 0), (2, .ref m), (1, .ref x), (0, .ref b)] [.int 2, .ref b, .int (xs 1), .ref m, .int (-2)] C k_law_289_4 rfl ?_
  refine j_sld C hX hbl 2 (by decide) (jin (by decide) (by decide)) d_law_293 ?_
  obtain ⟨Vm, mst, mtp, mim, mso, mln, mit, mfS, hm, m0, m17, m21, m22, m37, m38, m39, m40, m41, hst, mt, him, hso, hfS, hln, hit, hrw, msl, msi, -⟩ := SM
  refine j_callVB (mc := 0) (ms := 0) C Rm Y [.int (xs 1), .int (xs 2)] [.int (-2)] (c_Mo_told (jGl g) D (jGB g) (jGH g) w m Vm (xs 1) (xs 2) hm m0) cl_Law_31 (by rfl) (by rfl) hm d_law_294 rfl rfl (Nat.le_of_ble_eq_true rfl) ⟨Nat.le_of_ble_eq_true rfl, Nat.le_of_ble_eq_true rfl⟩ ⟨by have := hc2.1; show _ ≤ 0 + 600000; omega, by have := hc2.2; show _ ≤ 0 + 7302250; omega⟩ (fun v2 w2 p2 b2 => ?_)
  obtain ⟨rfl, rfl⟩ := p2
  have hc3 := hc2
  show JJ g w 297 [(3, .int 0), (2, .ref m), (1, .ref x), (0, .ref b)] [.int (-2), .int (-2)]
  refine j_icmp_eq (tgt := 1151) C d_law_297 (by decide) (fun c1 => ?_) (fun c1 => absurd (by decide) c1)
  exact kk w ⟨Nat.le_trans hc3.1 (by decide), Nat.le_trans hc3.2 (by decide)⟩
set_option maxHeartbeats 4000000 in
theorem lawc_4 {g : jG} {D : va_G} {b : Nat} {xs : Nat → Int32} {w : jW} {x m q : Nat} (E : lawE g D b 7 xs) (SX : lawX D w x (fun a => a < q)) (SM : lawM D w m (fun a => q ≤ a)) (hc : w.2.1 ≤ 810 ∧ w.2.2 ≤ 129790)
    (kk : ∀ w9 : jW, w9.2.1 ≤ 1000 ∧ w9.2.2 ≤ 200000 → JJ g w9 1151 [(3, .int 0), (2, .ref m), (1, .ref x), (0, .ref b)] []) : JJ g w 302 [(3, .int 0), (2, .ref m), (1, .ref x), (0, .ref b)] [] := by
  obtain ⟨C, Rm, hX, hbl, -⟩ := E
  have Y : jY g (jGl g) (jGB g) (jGH g) (jGy g) := ⟨rfl, rfl, rfl, rfl⟩
  obtain ⟨V, tp, pg, sh, rd, F, Vr, hx, h0, h1, h2, h3, h4, h5, h8, h9, ht, hpg, hsh, hrd, ⟨px, ptp, ppg, psh, prd⟩, hs⟩ := SX
  refine j_blk 307 [(3, .int 0), (2, .ref m), (1, .ref x), (0, .ref b)] [.int 1, .ref b, .ref x] C k_law_302_5 rfl ?_
  refine j_sld C hX hbl 1 (by decide) (jin (by decide) (by decide)) d_law_307 ?_
  refine j_blk 312 [(3, .int 0), (2, .ref m), (1, .ref x), (0, .ref b)] [.int 2, .ref b, .int (xs 1), .ref x] C k_law_308_4 rfl ?_
  refine j_sld C hX hbl 2 (by decide) (jin (by decide) (by decide)) d_law_312 ?_
  refine j_blk 317 [(3, .int 0), (2, .ref m), (1, .ref x), (0, .ref b)] [.int 3, .ref b, .int (xs 2), .int (xs 1), .ref x] C k_law_313_4 rfl ?_
  refine j_sld C hX hbl 3 (by decide) (jin (by decide) (by decide)) d_law_317 ?_
  refine j_callVB (mc := 0) (ms := 0) C Rm Y [.int (xs 1), .int (xs 2), .int (xs 3)] [] (c_CS_step (jGl g) D (jGB g) (jGH g) w x V (xs 1) (xs 2) (xs 3) hx h3) cl_Law_32 (by rfl) (by rfl) hx d_law_318 rfl rfl (Nat.le_of_ble_eq_true rfl) ⟨Nat.le_of_ble_eq_true rfl, Nat.le_of_ble_eq_true rfl⟩ ⟨by have := hc.1; show _ ≤ 0 + 600000; omega, by have := hc.2; show _ ≤ 0 + 7302250; omega⟩ (fun v1 w1 p1 b1 => ?_)
  obtain ⟨rfl, rfl⟩ := p1
  have hc2 : w.2.1 ≤ 900 ∧ w.2.2 ≤ 150000 := ⟨by have := hc.1; omega, by have := hc.2; omega⟩
  show JJ g w 321 [(3, .int 0), (2, .ref m), (1, .ref x), (0, .ref b)] [.int (-2)]
  refine j_blk 326 [(3, .int 0), (2, .ref m), (1, .ref x), (0, .ref b)] [.int 1, .ref b, .ref m, .int (-2)] C k_law_321_5 rfl ?_
  refine j_sld C hX hbl 1 (by decide) (jin (by decide) (by decide)) d_law_326 ?_
  refine j_blk 331 [(3, .int 0), (2, .ref m), (1, .ref x), (0, .ref b)] [.int 2, .ref b, .int (xs 1), .ref m, .int (-2)] C k_law_327_4 rfl ?_
  refine j_sld C hX hbl 2 (by decide) (jin (by decide) (by decide)) d_law_331 ?_
  refine j_blk 336 [(3, .int 0), (2, .ref m), (1, .ref x), (0, .ref b)] [.int 3, .ref b, .int (xs 2), .int (xs 1), .ref m, .int (-2)] C k_law_332_4 rfl ?_
  refine j_sld C hX hbl 3 (by decide) (jin (by decide) (by decide)) d_law_336 ?_
  obtain ⟨Vm, mst, mtp, mim, mso, mln, mit, mfS, hm, m0, m17, m21, m22, m37, m38, m39, m40, m41, hst, mt, him, hso, hfS, hln, hit, hrw, msl, msi, -⟩ := SM
  refine j_callVB (mc := 0) (ms := 0) C Rm Y [.int (xs 1), .int (xs 2), .int (xs 3)] [.int (-2)] (c_Mo_step_1 (jGl g) D (jGB g) (jGH g) w m Vm (xs 1) (xs 2) (xs 3) hm m0) cl_Law_36 (by rfl) (by rfl) hm d_law_337 rfl rfl (Nat.le_of_ble_eq_true rfl) ⟨Nat.le_of_ble_eq_true rfl, Nat.le_of_ble_eq_true rfl⟩ ⟨by have := hc2.1; show _ ≤ 0 + 600000; omega, by have := hc2.2; show _ ≤ 0 + 7302250; omega⟩ (fun v2 w2 p2 b2 => ?_)
  obtain ⟨rfl, rfl⟩ := p2
  have hc3 := hc2
  show JJ g w 340 [(3, .int 0), (2, .ref m), (1, .ref x), (0, .ref b)] [.int (-2), .int (-2)]
  refine j_icmp_eq (tgt := 1151) C d_law_340 (by decide) (fun c1 => ?_) (fun c1 => absurd (by decide) c1)
  exact kk w ⟨Nat.le_trans hc3.1 (by decide), Nat.le_trans hc3.2 (by decide)⟩
set_option maxHeartbeats 4000000 in
theorem lawc_5 {g : jG} {D : va_G} {b : Nat} {xs : Nat → Int32} {w : jW} {x m q : Nat} (E : lawE g D b 7 xs) (SX : lawX D w x (fun a => a < q)) (SM : lawM D w m (fun a => q ≤ a)) (hc : w.2.1 ≤ 810 ∧ w.2.2 ≤ 129790)
    (kk : ∀ w9 : jW, w9.2.1 ≤ 1000 ∧ w9.2.2 ≤ 200000 → JJ g w9 1151 [(3, .int 0), (2, .ref m), (1, .ref x), (0, .ref b)] []) : JJ g w 345 [(3, .int 0), (2, .ref m), (1, .ref x), (0, .ref b)] [] := by
  obtain ⟨C, Rm, hX, hbl, -⟩ := E
  have Y : jY g (jGl g) (jGB g) (jGH g) (jGy g) := ⟨rfl, rfl, rfl, rfl⟩
  obtain ⟨V, tp, pg, sh, rd, F, Vr, hx, h0, h1, h2, h3, h4, h5, h8, h9, ht, hpg, hsh, hrd, ⟨px, ptp, ppg, psh, prd⟩, hs⟩ := SX
  refine j_blk 350 [(3, .int 0), (2, .ref m), (1, .ref x), (0, .ref b)] [.int 1, .ref b, .ref x] C k_law_345_5 rfl ?_
  refine j_sld C hX hbl 1 (by decide) (jin (by decide) (by decide)) d_law_350 ?_
  refine j_blk 355 [(3, .int 0), (2, .ref m), (1, .ref x), (0, .ref b)] [.int 2, .ref b, .int (xs 1), .ref x] C k_law_351_4 rfl ?_
  refine j_sld C hX hbl 2 (by decide) (jin (by decide) (by decide)) d_law_355 ?_
  refine j_blk 360 [(3, .int 0), (2, .ref m), (1, .ref x), (0, .ref b)] [.int 3, .ref b, .int (xs 2), .int (xs 1), .ref x] C k_law_356_4 rfl ?_
  refine j_sld C hX hbl 3 (by decide) (jin (by decide) (by decide)) d_law_360 ?_
  refine j_callVB (mc := 0) (ms := 0) C Rm Y [.int (xs 1), .int (xs 2), .int (xs 3)] [] (c_CS_taken (jGl g) D (jGB g) (jGH g) w x V (xs 1) (xs 2) (xs 3) hx h3) cl_Law_37 (by rfl) (by rfl) hx d_law_361 rfl rfl (Nat.le_of_ble_eq_true rfl) ⟨Nat.le_of_ble_eq_true rfl, Nat.le_of_ble_eq_true rfl⟩ ⟨by have := hc.1; show _ ≤ 0 + 600000; omega, by have := hc.2; show _ ≤ 0 + 7302250; omega⟩ (fun v1 w1 p1 b1 => ?_)
  obtain ⟨rfl, rfl⟩ := p1
  have hc2 : w.2.1 ≤ 900 ∧ w.2.2 ≤ 150000 := ⟨by have := hc.1; omega, by have := hc.2; omega⟩
  show JJ g w 364 [(3, .int 0), (2, .ref m), (1, .ref x), (0, .ref b)] [.int (-2)]
  refine j_blk 369 [(3, .int 0), (2, .ref m), (1, .ref x), (0, .ref b)] [.int 1, .ref b, .ref m, .int (-2)] C k_law_364_5 rfl ?_
  refine j_sld C hX hbl 1 (by decide) (jin (by decide) (by decide)) d_law_369 ?_
  refine j_blk 374 [(3, .int 0), (2, .ref m), (1, .ref x), (0, .ref b)] [.int 2, .ref b, .int (xs 1), .ref m, .int (-2)] C k_law_370_4 rfl ?_
  refine j_sld C hX hbl 2 (by decide) (jin (by decide) (by decide)) d_law_374 ?_
  refine j_blk 379 [(3, .int 0), (2, .ref m), (1, .ref x), (0, .ref b)] [.int 3, .ref b, .int (xs 2), .int (xs 1), .ref m, .int (-2)] C k_law_375_4 rfl ?_
  refine j_sld C hX hbl 3 (by decide) (jin (by decide) (by decide)) d_law_379 ?_
  obtain ⟨Vm, mst, mtp, mim, mso, mln, mit, mfS, hm, m0, m17, m21, m22, m37, m38, m39, m40, m41, hst, mt, him, hso, hfS, hln, hit, hrw, msl, msi, -⟩ := SM
  refine j_callVB (mc := 0) (ms := 0) C Rm Y [.int (xs 1), .int (xs 2), .int (xs 3)] [.int (-2)] (c_Mo_taken_1 (jGl g) D (jGB g) (jGH g) w m Vm (xs 1) (xs 2) (xs 3) hm m0) cl_Law_40 (by rfl) (by rfl) hm d_law_380 rfl rfl (Nat.le_of_ble_eq_true rfl) ⟨Nat.le_of_ble_eq_true rfl, Nat.le_of_ble_eq_true rfl⟩ ⟨by have := hc2.1; show _ ≤ 0 + 600000; omega, by have := hc2.2; show _ ≤ 0 + 7302250; omega⟩ (fun v2 w2 p2 b2 => ?_)
  obtain ⟨rfl, rfl⟩ := p2
  have hc3 := hc2
  show JJ g w 383 [(3, .int 0), (2, .ref m), (1, .ref x), (0, .ref b)] [.int (-2), .int (-2)]
  refine j_icmp_eq (tgt := 1151) C d_law_383 (by decide) (fun c1 => ?_) (fun c1 => absurd (by decide) c1)
  exact kk w ⟨Nat.le_trans hc3.1 (by decide), Nat.le_trans hc3.2 (by decide)⟩
set_option maxHeartbeats 4000000 in
theorem lawc_6 {g : jG} {D : va_G} {b : Nat} {xs : Nat → Int32} {w : jW} {x m q : Nat} (E : lawE g D b 7 xs) (SX : lawX D w x (fun a => a < q)) (SM : lawM D w m (fun a => q ≤ a)) (hc : w.2.1 ≤ 810 ∧ w.2.2 ≤ 129790)
    (kk : ∀ w9 : jW, w9.2.1 ≤ 1000 ∧ w9.2.2 ≤ 200000 → JJ g w9 1151 [(3, .int 0), (2, .ref m), (1, .ref x), (0, .ref b)] []) : JJ g w 388 [(3, .int 0), (2, .ref m), (1, .ref x), (0, .ref b)] [] := by
  obtain ⟨C, Rm, hX, hbl, -⟩ := E
  have Y : jY g (jGl g) (jGB g) (jGH g) (jGy g) := ⟨rfl, rfl, rfl, rfl⟩
  obtain ⟨V, tp, pg, sh, rd, F, Vr, hx, h0, h1, h2, h3, h4, h5, h8, h9, ht, hpg, hsh, hrd, ⟨px, ptp, ppg, psh, prd⟩, hs⟩ := SX
  refine j_blk 393 [(3, .int 0), (2, .ref m), (1, .ref x), (0, .ref b)] [.int 1, .ref b, .ref x] C k_law_388_5 rfl ?_
  refine j_sld C hX hbl 1 (by decide) (jin (by decide) (by decide)) d_law_393 ?_
  refine j_blk 398 [(3, .int 0), (2, .ref m), (1, .ref x), (0, .ref b)] [.int 2, .ref b, .int (xs 1), .ref x] C k_law_394_4 rfl ?_
  refine j_sld C hX hbl 2 (by decide) (jin (by decide) (by decide)) d_law_398 ?_
  refine j_callVB (mc := 0) (ms := 0) C Rm Y [.int (xs 1), .int (xs 2)] [] (c_CS_left (jGl g) D (jGB g) (jGH g) w x V (xs 1) (xs 2) hx h3) cl_Law_41 (by rfl) (by rfl) hx d_law_399 rfl rfl (Nat.le_of_ble_eq_true rfl) ⟨Nat.le_of_ble_eq_true rfl, Nat.le_of_ble_eq_true rfl⟩ ⟨by have := hc.1; show _ ≤ 0 + 600000; omega, by have := hc.2; show _ ≤ 0 + 7302250; omega⟩ (fun v1 w1 p1 b1 => ?_)
  obtain ⟨rfl, rfl⟩ := p1
  have hc2 : w.2.1 ≤ 900 ∧ w.2.2 ≤ 150000 := ⟨by have := hc.1; omega, by have := hc.2; omega⟩
  show JJ g w 402 [(3, .int 0), (2, .ref m), (1, .ref x), (0, .ref b)] [.long (-4611686018427387904)]
  refine j_blk 407 [(3, .int 0), (2, .ref m), (1, .ref x), (0, .ref b)] [.int 1, .ref b, .ref m, .long (-4611686018427387904)] C k_law_402_5 rfl ?_
  refine j_sld C hX hbl 1 (by decide) (jin (by decide) (by decide)) d_law_407 ?_
  refine j_blk 412 [(3, .int 0), (2, .ref m), (1, .ref x), (0, .ref b)] [.int 2, .ref b, .int (xs 1), .ref m, .long (-4611686018427387904)] C k_law_408_4 rfl ?_
  refine j_sld C hX hbl 2 (by decide) (jin (by decide) (by decide)) d_law_412 ?_
  obtain ⟨Vm, mst, mtp, mim, mso, mln, mit, mfS, hm, m0, m17, m21, m22, m37, m38, m39, m40, m41, hst, mt, him, hso, hfS, hln, hit, hrw, msl, msi, -⟩ := SM
  refine j_callVB (mc := 0) (ms := 0) C Rm Y [.int (xs 1), .int (xs 2)] [.long (-4611686018427387904)] (c_Mo_left (jGl g) D (jGB g) (jGH g) w m Vm (xs 1) (xs 2) hm m0) cl_Law_45 (by rfl) (by rfl) hm d_law_413 rfl rfl (Nat.le_of_ble_eq_true rfl) ⟨Nat.le_of_ble_eq_true rfl, Nat.le_of_ble_eq_true rfl⟩ ⟨by have := hc2.1; show _ ≤ 0 + 600000; omega, by have := hc2.2; show _ ≤ 0 + 7302250; omega⟩ (fun v2 w2 p2 b2 => ?_)
  obtain ⟨rfl, rfl⟩ := p2
  have hc3 := hc2
  show JJ g w 416 [(3, .int 0), (2, .ref m), (1, .ref x), (0, .ref b)] [.long (-4611686018427387904), .long (-4611686018427387904)]
  refine j_lcmp C d_law_416 ?_
  rw [show lg_cmp (-4611686018427387904) (-4611686018427387904) = 0 from by decide]
  refine j_if_eq (tgt := 1151) C d_law_417 (by decide) (fun c1 => ?_) (fun c1 => absurd (by decide) c1)
  exact kk w ⟨Nat.le_trans hc3.1 (by decide), Nat.le_trans hc3.2 (by decide)⟩
set_option maxHeartbeats 4000000 in
theorem lawc_7 {g : jG} {D : va_G} {b : Nat} {xs : Nat → Int32} {w : jW} {x m q : Nat} (E : lawE g D b 7 xs) (SX : lawX D w x (fun a => a < q)) (SM : lawM D w m (fun a => q ≤ a)) (hc : w.2.1 ≤ 810 ∧ w.2.2 ≤ 129790)
    (kk : ∀ w9 : jW, w9.2.1 ≤ 1000 ∧ w9.2.2 ≤ 200000 → JJ g w9 1151 [(3, .int 0), (2, .ref m), (1, .ref x), (0, .ref b)] []) : JJ g w 422 [(3, .int 0), (2, .ref m), (1, .ref x), (0, .ref b)] [] := by
  obtain ⟨C, Rm, hX, hbl, -⟩ := E
  have Y : jY g (jGl g) (jGB g) (jGH g) (jGy g) := ⟨rfl, rfl, rfl, rfl⟩
  obtain ⟨V, tp, pg, sh, rd, F, Vr, hx, h0, h1, h2, h3, h4, h5, h8, h9, ht, hpg, hsh, hrd, ⟨px, ptp, ppg, psh, prd⟩, hs⟩ := SX
  refine j_blk 427 [(3, .int 0), (2, .ref m), (1, .ref x), (0, .ref b)] [.int 1, .ref b, .ref x] C k_law_422_5 rfl ?_
  refine j_sld C hX hbl 1 (by decide) (jin (by decide) (by decide)) d_law_427 ?_
  refine j_blk 432 [(3, .int 0), (2, .ref m), (1, .ref x), (0, .ref b)] [.int 2, .ref b, .int (xs 1), .ref x] C k_law_428_4 rfl ?_
  refine j_sld C hX hbl 2 (by decide) (jin (by decide) (by decide)) d_law_432 ?_
  refine j_blk 437 [(3, .int 0), (2, .ref m), (1, .ref x), (0, .ref b)] [.int 3, .ref b, .int (xs 2), .int (xs 1), .ref x] C k_law_433_4 rfl ?_
  refine j_sld C hX hbl 3 (by decide) (jin (by decide) (by decide)) d_law_437 ?_
  refine j_blk 442 [(3, .int 0), (2, .ref m), (1, .ref x), (0, .ref b)] [.int 4, .ref b, .int (xs 3), .int (xs 2), .int (xs 1), .ref x] C k_law_438_4 rfl ?_
  refine j_sld C hX hbl 4 (by decide) (jin (by decide) (by decide)) d_law_442 ?_
  refine j_callVB (mc := 0) (ms := 0) C Rm Y [.int (xs 1), .int (xs 2), .int (xs 3), .int (xs 4)] [] (c_CS_odds (jGl g) D (jGB g) (jGH g) w x V (xs 1) (xs 2) (xs 3) (xs 4) hx h3) cl_Law_46 (by rfl) (by rfl) hx d_law_443 rfl rfl (Nat.le_of_ble_eq_true rfl) ⟨Nat.le_of_ble_eq_true rfl, Nat.le_of_ble_eq_true rfl⟩ ⟨by have := hc.1; show _ ≤ 0 + 600000; omega, by have := hc.2; show _ ≤ 0 + 7302250; omega⟩ (fun v1 w1 p1 b1 => ?_)
  obtain ⟨rfl, rfl⟩ := p1
  have hc2 : w.2.1 ≤ 900 ∧ w.2.2 ≤ 150000 := ⟨by have := hc.1; omega, by have := hc.2; omega⟩
  show JJ g w 446 [(3, .int 0), (2, .ref m), (1, .ref x), (0, .ref b)] [.long (-4611686018427387904)]
  refine j_blk 451 [(3, .int 0), (2, .ref m), (1, .ref x), (0, .ref b)] [.int 1, .ref b, .ref m, .long (-4611686018427387904)] C k_law_446_5 rfl ?_
  refine j_sld C hX hbl 1 (by decide) (jin (by decide) (by decide)) d_law_451 ?_
  refine j_blk 456 [(3, .int 0), (2, .ref m), (1, .ref x), (0, .ref b)] [.int 2, .ref b, .int (xs 1), .ref m, .long (-4611686018427387904)] C k_law_452_4 rfl ?_
  refine j_sld C hX hbl 2 (by decide) (jin (by decide) (by decide)) d_law_456 ?_
  refine j_blk 461 [(3, .int 0), (2, .ref m), (1, .ref x), (0, .ref b)] [.int 3, .ref b, .int (xs 2), .int (xs 1), .ref m, .long (-4611686018427387904)] C k_law_457_4 rfl ?_
  refine j_sld C hX hbl 3 (by decide) (jin (by decide) (by decide)) d_law_461 ?_
  refine j_blk 466 [(3, .int 0), (2, .ref m), (1, .ref x), (0, .ref b)] [.int 4, .ref b, .int (xs 3), .int (xs 2), .int (xs 1), .ref m, .long (-4611686018427387904)] C k_law_462_4 rfl ?_
  refine j_sld C hX hbl 4 (by decide) (jin (by decide) (by decide)) d_law_466 ?_
  obtain ⟨Vm, mst, mtp, mim, mso, mln, mit, mfS, hm, m0, m17, m21, m22, m37, m38, m39, m40, m41, hst, mt, him, hso, hfS, hln, hit, hrw, msl, msi, -⟩ := SM
  refine j_callVB (mc := 0) (ms := 0) C Rm Y [.int (xs 1), .int (xs 2), .int (xs 3), .int (xs 4)] [.long (-4611686018427387904)] (c_Mo_odds_1 (jGl g) D (jGB g) (jGH g) w m Vm (xs 1) (xs 2) (xs 3) (xs 4) hm m0) cl_Law_50 (by rfl) (by rfl) hm d_law_467 rfl rfl (Nat.le_of_ble_eq_true rfl) ⟨Nat.le_of_ble_eq_true rfl, Nat.le_of_ble_eq_true rfl⟩ ⟨by have := hc2.1; show _ ≤ 0 + 600000; omega, by have := hc2.2; show _ ≤ 0 + 7302250; omega⟩ (fun v2 w2 p2 b2 => ?_)
  obtain ⟨rfl, rfl⟩ := p2
  have hc3 := hc2
  show JJ g w 470 [(3, .int 0), (2, .ref m), (1, .ref x), (0, .ref b)] [.long (-4611686018427387904), .long (-4611686018427387904)]
  refine j_lcmp C d_law_470 ?_
  rw [show lg_cmp (-4611686018427387904) (-4611686018427387904) = 0 from by decide]
  refine j_if_eq (tgt := 1151) C d_law_471 (by decide) (fun c1 => ?_) (fun c1 => absurd (by decide) c1)
  exact kk w ⟨Nat.le_trans hc3.1 (by decide), Nat.le_trans hc3.2 (by decide)⟩
set_option maxHeartbeats 4000000 in
theorem lawc_8 {g : jG} {D : va_G} {b : Nat} {xs : Nat → Int32} {w : jW} {x m q : Nat} (E : lawE g D b 7 xs) (SX : lawX D w x (fun a => a < q)) (SM : lawM D w m (fun a => q ≤ a)) (hc : w.2.1 ≤ 810 ∧ w.2.2 ≤ 129790)
    (kk : ∀ w9 : jW, w9.2.1 ≤ 1000 ∧ w9.2.2 ≤ 200000 → JJ g w9 1151 [(3, .int 0), (2, .ref m), (1, .ref x), (0, .ref b)] []) : JJ g w 476 [(3, .int 0), (2, .ref m), (1, .ref x), (0, .ref b)] [] := by
  obtain ⟨C, Rm, hX, hbl, -⟩ := E
  have Y : jY g (jGl g) (jGB g) (jGH g) (jGy g) := ⟨rfl, rfl, rfl, rfl⟩
  obtain ⟨V, tp, pg, sh, rd, F, Vr, hx, h0, h1, h2, h3, h4, h5, h8, h9, ht, hpg, hsh, hrd, ⟨px, ptp, ppg, psh, prd⟩, hs⟩ := SX
  refine j_blk 481 [(3, .int 0), (2, .ref m), (1, .ref x), (0, .ref b)] [.int 1, .ref b, .ref x] C k_law_476_5 rfl ?_
  refine j_sld C hX hbl 1 (by decide) (jin (by decide) (by decide)) d_law_481 ?_
  refine j_blk 486 [(3, .int 0), (2, .ref m), (1, .ref x), (0, .ref b)] [.int 2, .ref b, .int (xs 1), .ref x] C k_law_482_4 rfl ?_
  refine j_sld C hX hbl 2 (by decide) (jin (by decide) (by decide)) d_law_486 ?_
  refine j_blk 491 [(3, .int 0), (2, .ref m), (1, .ref x), (0, .ref b)] [.int 3, .ref b, .int (xs 2), .int (xs 1), .ref x] C k_law_487_4 rfl ?_
  refine j_sld C hX hbl 3 (by decide) (jin (by decide) (by decide)) d_law_491 ?_
  refine j_callVB (mc := 0) (ms := 0) C Rm Y [.int (xs 1), .int (xs 2), .int (xs 3)] [] (c_CS_state (jGl g) D (jGB g) (jGH g) w x V (xs 1) (xs 2) (xs 3) hx h3) cl_Law_51 (by rfl) (by rfl) hx d_law_492 rfl rfl (Nat.le_of_ble_eq_true rfl) ⟨Nat.le_of_ble_eq_true rfl, Nat.le_of_ble_eq_true rfl⟩ ⟨by have := hc.1; show _ ≤ 0 + 600000; omega, by have := hc.2; show _ ≤ 0 + 7302250; omega⟩ (fun v1 w1 p1 b1 => ?_)
  obtain ⟨rfl, rfl⟩ := p1
  have hc2 : w.2.1 ≤ 900 ∧ w.2.2 ≤ 150000 := ⟨by have := hc.1; omega, by have := hc.2; omega⟩
  show JJ g w 495 [(3, .int 0), (2, .ref m), (1, .ref x), (0, .ref b)] [.long (-4611686018427387904)]
  refine j_blk 500 [(3, .int 0), (2, .ref m), (1, .ref x), (0, .ref b)] [.int 1, .ref b, .ref m, .long (-4611686018427387904)] C k_law_495_5 rfl ?_
  refine j_sld C hX hbl 1 (by decide) (jin (by decide) (by decide)) d_law_500 ?_
  refine j_blk 505 [(3, .int 0), (2, .ref m), (1, .ref x), (0, .ref b)] [.int 2, .ref b, .int (xs 1), .ref m, .long (-4611686018427387904)] C k_law_501_4 rfl ?_
  refine j_sld C hX hbl 2 (by decide) (jin (by decide) (by decide)) d_law_505 ?_
  refine j_blk 510 [(3, .int 0), (2, .ref m), (1, .ref x), (0, .ref b)] [.int 3, .ref b, .int (xs 2), .int (xs 1), .ref m, .long (-4611686018427387904)] C k_law_506_4 rfl ?_
  refine j_sld C hX hbl 3 (by decide) (jin (by decide) (by decide)) d_law_510 ?_
  obtain ⟨Vm, mst, mtp, mim, mso, mln, mit, mfS, hm, m0, m17, m21, m22, m37, m38, m39, m40, m41, hst, mt, him, hso, hfS, hln, hit, hrw, msl, msi, -⟩ := SM
  refine j_callVB (mc := 0) (ms := 0) C Rm Y [.int (xs 1), .int (xs 2), .int (xs 3)] [.long (-4611686018427387904)] (c_Mo_state (jGl g) D (jGB g) (jGH g) w m Vm (xs 1) (xs 2) (xs 3) hm m0) cl_Law_55 (by rfl) (by rfl) hm d_law_511 rfl rfl (Nat.le_of_ble_eq_true rfl) ⟨Nat.le_of_ble_eq_true rfl, Nat.le_of_ble_eq_true rfl⟩ ⟨by have := hc2.1; show _ ≤ 0 + 600000; omega, by have := hc2.2; show _ ≤ 0 + 7302250; omega⟩ (fun v2 w2 p2 b2 => ?_)
  obtain ⟨rfl, rfl⟩ := p2
  have hc3 := hc2
  show JJ g w 514 [(3, .int 0), (2, .ref m), (1, .ref x), (0, .ref b)] [.long (-4611686018427387904), .long (-4611686018427387904)]
  refine j_lcmp C d_law_514 ?_
  rw [show lg_cmp (-4611686018427387904) (-4611686018427387904) = 0 from by decide]
  refine j_if_eq (tgt := 1151) C d_law_515 (by decide) (fun c1 => ?_) (fun c1 => absurd (by decide) c1)
  exact kk w ⟨Nat.le_trans hc3.1 (by decide), Nat.le_trans hc3.2 (by decide)⟩
set_option maxHeartbeats 4000000 in
theorem lawc_9 {g : jG} {D : va_G} {b : Nat} {xs : Nat → Int32} {w : jW} {x m q : Nat} (E : lawE g D b 7 xs) (SX : lawX D w x (fun a => a < q)) (SM : lawM D w m (fun a => q ≤ a)) (hc : w.2.1 ≤ 810 ∧ w.2.2 ≤ 129790)
    (kk : ∀ w9 : jW, w9.2.1 ≤ 1000 ∧ w9.2.2 ≤ 200000 → JJ g w9 1151 [(3, .int 0), (2, .ref m), (1, .ref x), (0, .ref b)] []) : JJ g w 520 [(3, .int 0), (2, .ref m), (1, .ref x), (0, .ref b)] [] := by
  obtain ⟨C, Rm, hX, hbl, -⟩ := E
  have Y : jY g (jGl g) (jGB g) (jGH g) (jGy g) := ⟨rfl, rfl, rfl, rfl⟩
  obtain ⟨V, tp, pg, sh, rd, F, Vr, hx, h0, h1, h2, h3, h4, h5, h8, h9, ht, hpg, hsh, hrd, ⟨px, ptp, ppg, psh, prd⟩, hs⟩ := SX
  refine j_blk 525 [(3, .int 0), (2, .ref m), (1, .ref x), (0, .ref b)] [.int 1, .ref b, .ref x] C k_law_520_5 rfl ?_
  refine j_sld C hX hbl 1 (by decide) (jin (by decide) (by decide)) d_law_525 ?_
  refine j_blk 530 [(3, .int 0), (2, .ref m), (1, .ref x), (0, .ref b)] [.int 2, .ref b, .int (xs 1), .ref x] C k_law_526_4 rfl ?_
  refine j_sld C hX hbl 2 (by decide) (jin (by decide) (by decide)) d_law_530 ?_
  refine j_blk 535 [(3, .int 0), (2, .ref m), (1, .ref x), (0, .ref b)] [.int 3, .ref b, .int (xs 2), .int (xs 1), .ref x] C k_law_531_4 rfl ?_
  refine j_sld C hX hbl 3 (by decide) (jin (by decide) (by decide)) d_law_535 ?_
  refine j_blk 540 [(3, .int 0), (2, .ref m), (1, .ref x), (0, .ref b)] [.int 4, .ref b, .int (xs 3), .int (xs 2), .int (xs 1), .ref x] C k_law_536_4 rfl ?_
  refine j_sld C hX hbl 4 (by decide) (jin (by decide) (by decide)) d_law_540 ?_
  refine j_callVB (mc := 0) (ms := 0) C Rm Y [.int (xs 1), .int (xs 2), .int (xs 3), .int (xs 4)] [] (c_CS_fold (jGl g) D (jGB g) (jGH g) w x V (xs 1) (xs 2) (xs 3) (xs 4) hx h3) cl_Law_56 (by rfl) (by rfl) hx d_law_541 rfl rfl (Nat.le_of_ble_eq_true rfl) ⟨Nat.le_of_ble_eq_true rfl, Nat.le_of_ble_eq_true rfl⟩ ⟨by have := hc.1; show _ ≤ 0 + 600000; omega, by have := hc.2; show _ ≤ 0 + 7302250; omega⟩ (fun v1 w1 p1 b1 => ?_)
  obtain ⟨rfl, rfl⟩ := p1
  have hc2 : w.2.1 ≤ 900 ∧ w.2.2 ≤ 150000 := ⟨by have := hc.1; omega, by have := hc.2; omega⟩
  show JJ g w 544 [(3, .int 0), (2, .ref m), (1, .ref x), (0, .ref b)] [.long (-4611686018427387904)]
  refine j_blk 549 [(3, .int 0), (2, .ref m), (1, .ref x), (0, .ref b)] [.int 1, .ref b, .ref m, .long (-4611686018427387904)] C k_law_544_5 rfl ?_
  refine j_sld C hX hbl 1 (by decide) (jin (by decide) (by decide)) d_law_549 ?_
  refine j_blk 554 [(3, .int 0), (2, .ref m), (1, .ref x), (0, .ref b)] [.int 2, .ref b, .int (xs 1), .ref m, .long (-4611686018427387904)] C k_law_550_4 rfl ?_
  refine j_sld C hX hbl 2 (by decide) (jin (by decide) (by decide)) d_law_554 ?_
  refine j_blk 559 [(3, .int 0), (2, .ref m), (1, .ref x), (0, .ref b)] [.int 3, .ref b, .int (xs 2), .int (xs 1), .ref m, .long (-4611686018427387904)] C k_law_555_4 rfl ?_
  refine j_sld C hX hbl 3 (by decide) (jin (by decide) (by decide)) d_law_559 ?_
  refine j_blk 564 [(3, .int 0), (2, .ref m), (1, .ref x), (0, .ref b)] [.int 4, .ref b, .int (xs 3), .int (xs 2), .int (xs 1), .ref m, .long (-4611686018427387904)] C k_law_560_4 rfl ?_
  refine j_sld C hX hbl 4 (by decide) (jin (by decide) (by decide)) d_law_564 ?_
  obtain ⟨Vm, mst, mtp, mim, mso, mln, mit, mfS, hm, m0, m17, m21, m22, m37, m38, m39, m40, m41, hst, mt, him, hso, hfS, hln, hit, hrw, msl, msi, -⟩ := SM
  refine j_callVB (mc := 0) (ms := 0) C Rm Y [.int (xs 1), .int (xs 2), .int (xs 3), .int (xs 4)] [.long (-4611686018427387904)] (c_Mo_fold_1 (jGl g) D (jGB g) (jGH g) w m Vm (xs 1) (xs 2) (xs 3) (xs 4) hm m0) cl_Law_59 (by rfl) (by rfl) hm d_law_565 rfl rfl (Nat.le_of_ble_eq_true rfl) ⟨Nat.le_of_ble_eq_true rfl, Nat.le_of_ble_eq_true rfl⟩ ⟨by have := hc2.1; show _ ≤ 0 + 600000; omega, by have := hc2.2; show _ ≤ 0 + 7302250; omega⟩ (fun v2 w2 p2 b2 => ?_)
  obtain ⟨rfl, rfl⟩ := p2
  have hc3 := hc2
  show JJ g w 568 [(3, .int 0), (2, .ref m), (1, .ref x), (0, .ref b)] [.long (-4611686018427387904), .long (-4611686018427387904)]
  refine j_lcmp C d_law_568 ?_
  rw [show lg_cmp (-4611686018427387904) (-4611686018427387904) = 0 from by decide]
  refine j_if_eq (tgt := 1151) C d_law_569 (by decide) (fun c1 => ?_) (fun c1 => absurd (by decide) c1)
  exact kk w ⟨Nat.le_trans hc3.1 (by decide), Nat.le_trans hc3.2 (by decide)⟩
set_option maxHeartbeats 4000000 in
theorem lawc_10 {g : jG} {D : va_G} {b : Nat} {xs : Nat → Int32} {w : jW} {x m q : Nat} (E : lawE g D b 7 xs) (SX : lawX D w x (fun a => a < q)) (SM : lawM D w m (fun a => q ≤ a)) (hc : w.2.1 ≤ 810 ∧ w.2.2 ≤ 129790)
    (kk : ∀ w9 : jW, w9.2.1 ≤ 1000 ∧ w9.2.2 ≤ 200000 → JJ g w9 1151 [(3, .int 0), (2, .ref m), (1, .ref x), (0, .ref b)] []) : JJ g w 574 [(3, .int 0), (2, .ref m), (1, .ref x), (0, .ref b)] [] := by
  obtain ⟨C, Rm, hX, hbl, -⟩ := E
  have Y : jY g (jGl g) (jGB g) (jGH g) (jGy g) := ⟨rfl, rfl, rfl, rfl⟩
  obtain ⟨V, tp, pg, sh, rd, F, Vr, hx, h0, h1, h2, h3, h4, h5, h8, h9, ht, hpg, hsh, hrd, ⟨px, ptp, ppg, psh, prd⟩, hs⟩ := SX
  refine j_blk 579 [(3, .int 0), (2, .ref m), (1, .ref x), (0, .ref b)] [.int 1, .ref b, .ref x] C k_law_574_5 rfl ?_
  refine j_sld C hX hbl 1 (by decide) (jin (by decide) (by decide)) d_law_579 ?_
  refine j_blk 584 [(3, .int 0), (2, .ref m), (1, .ref x), (0, .ref b)] [.int 2, .ref b, .int (xs 1), .ref x] C k_law_580_4 rfl ?_
  refine j_sld C hX hbl 2 (by decide) (jin (by decide) (by decide)) d_law_584 ?_
  refine j_callVB (mc := 0) (ms := 0) C Rm Y [.int (xs 1), .int (xs 2)] [] (c_CS_likeliest (jGl g) D (jGB g) (jGH g) w x V (xs 1) (xs 2) hx h3) cl_Law_60 (by rfl) (by rfl) hx d_law_585 rfl rfl (Nat.le_of_ble_eq_true rfl) ⟨Nat.le_of_ble_eq_true rfl, Nat.le_of_ble_eq_true rfl⟩ ⟨by have := hc.1; show _ ≤ 0 + 600000; omega, by have := hc.2; show _ ≤ 0 + 7302250; omega⟩ (fun v1 w1 p1 b1 => ?_)
  obtain ⟨rfl, rfl⟩ := p1
  have hc2 : w.2.1 ≤ 900 ∧ w.2.2 ≤ 150000 := ⟨by have := hc.1; omega, by have := hc.2; omega⟩
  show JJ g w 588 [(3, .int 0), (2, .ref m), (1, .ref x), (0, .ref b)] [.int (-2)]
  refine j_blk 593 [(3, .int 0), (2, .ref m), (1, .ref x), (0, .ref b)] [.int 1, .ref b, .ref m, .int (-2)] C k_law_588_5 rfl ?_
  refine j_sld C hX hbl 1 (by decide) (jin (by decide) (by decide)) d_law_593 ?_
  refine j_blk 598 [(3, .int 0), (2, .ref m), (1, .ref x), (0, .ref b)] [.int 2, .ref b, .int (xs 1), .ref m, .int (-2)] C k_law_594_4 rfl ?_
  refine j_sld C hX hbl 2 (by decide) (jin (by decide) (by decide)) d_law_598 ?_
  obtain ⟨Vm, mst, mtp, mim, mso, mln, mit, mfS, hm, m0, m17, m21, m22, m37, m38, m39, m40, m41, hst, mt, him, hso, hfS, hln, hit, hrw, msl, msi, -⟩ := SM
  refine j_callVB (mc := 0) (ms := 0) C Rm Y [.int (xs 1), .int (xs 2)] [.int (-2)] (c_Mo_likeliest (jGl g) D (jGB g) (jGH g) w m Vm (xs 1) (xs 2) hm m0) cl_Law_63 (by rfl) (by rfl) hm d_law_599 rfl rfl (Nat.le_of_ble_eq_true rfl) ⟨Nat.le_of_ble_eq_true rfl, Nat.le_of_ble_eq_true rfl⟩ ⟨by have := hc2.1; show _ ≤ 0 + 600000; omega, by have := hc2.2; show _ ≤ 0 + 7302250; omega⟩ (fun v2 w2 p2 b2 => ?_)
  obtain ⟨rfl, rfl⟩ := p2
  have hc3 := hc2
  show JJ g w 602 [(3, .int 0), (2, .ref m), (1, .ref x), (0, .ref b)] [.int (-2), .int (-2)]
  refine j_icmp_eq (tgt := 1151) C d_law_602 (by decide) (fun c1 => ?_) (fun c1 => absurd (by decide) c1)
  exact kk w ⟨Nat.le_trans hc3.1 (by decide), Nat.le_trans hc3.2 (by decide)⟩
set_option maxHeartbeats 4000000 in
theorem lawc_11 {g : jG} {D : va_G} {b : Nat} {xs : Nat → Int32} {w : jW} {x m q : Nat} (E : lawE g D b 7 xs) (SX : lawX D w x (fun a => a < q)) (SM : lawM D w m (fun a => q ≤ a)) (hc : w.2.1 ≤ 810 ∧ w.2.2 ≤ 129790)
    (kk : ∀ w9 : jW, w9.2.1 ≤ 1000 ∧ w9.2.2 ≤ 200000 → JJ g w9 1151 [(3, .int 0), (2, .ref m), (1, .ref x), (0, .ref b)] []) : JJ g w 607 [(3, .int 0), (2, .ref m), (1, .ref x), (0, .ref b)] [] := by
  obtain ⟨C, Rm, hX, hbl, -⟩ := E
  have Y : jY g (jGl g) (jGB g) (jGH g) (jGy g) := ⟨rfl, rfl, rfl, rfl⟩
  obtain ⟨V, tp, pg, sh, rd, F, Vr, hx, h0, h1, h2, h3, h4, h5, h8, h9, ht, hpg, hsh, hrd, ⟨px, ptp, ppg, psh, prd⟩, hs⟩ := SX
  refine j_blk 612 [(3, .int 0), (2, .ref m), (1, .ref x), (0, .ref b)] [.int 1, .ref b, .ref x] C k_law_607_5 rfl ?_
  refine j_sld C hX hbl 1 (by decide) (jin (by decide) (by decide)) d_law_612 ?_
  refine j_blk 617 [(3, .int 0), (2, .ref m), (1, .ref x), (0, .ref b)] [.int 2, .ref b, .int (xs 1), .ref x] C k_law_613_4 rfl ?_
  refine j_sld C hX hbl 2 (by decide) (jin (by decide) (by decide)) d_law_617 ?_
  refine j_blk 622 [(3, .int 0), (2, .ref m), (1, .ref x), (0, .ref b)] [.int 3, .ref b, .int (xs 2), .int (xs 1), .ref x] C k_law_618_4 rfl ?_
  refine j_sld C hX hbl 3 (by decide) (jin (by decide) (by decide)) d_law_622 ?_
  refine j_callVB (mc := 0) (ms := 0) C Rm Y [.int (xs 1), .int (xs 2), .int (xs 3)] [] (c_CS_apart (jGl g) D (jGB g) (jGH g) w x V (xs 1) (xs 2) (xs 3) hx h3) cl_Law_64 (by rfl) (by rfl) hx d_law_623 rfl rfl (Nat.le_of_ble_eq_true rfl) ⟨Nat.le_of_ble_eq_true rfl, Nat.le_of_ble_eq_true rfl⟩ ⟨by have := hc.1; show _ ≤ 0 + 600000; omega, by have := hc.2; show _ ≤ 0 + 7302250; omega⟩ (fun v1 w1 p1 b1 => ?_)
  obtain ⟨rfl, rfl⟩ := p1
  have hc2 : w.2.1 ≤ 900 ∧ w.2.2 ≤ 150000 := ⟨by have := hc.1; omega, by have := hc.2; omega⟩
  show JJ g w 626 [(3, .int 0), (2, .ref m), (1, .ref x), (0, .ref b)] [.int (-2)]
  refine j_blk 631 [(3, .int 0), (2, .ref m), (1, .ref x), (0, .ref b)] [.int 1, .ref b, .ref m, .int (-2)] C k_law_626_5 rfl ?_
  refine j_sld C hX hbl 1 (by decide) (jin (by decide) (by decide)) d_law_631 ?_
  refine j_blk 636 [(3, .int 0), (2, .ref m), (1, .ref x), (0, .ref b)] [.int 2, .ref b, .int (xs 1), .ref m, .int (-2)] C k_law_632_4 rfl ?_
  refine j_sld C hX hbl 2 (by decide) (jin (by decide) (by decide)) d_law_636 ?_
  refine j_blk 641 [(3, .int 0), (2, .ref m), (1, .ref x), (0, .ref b)] [.int 3, .ref b, .int (xs 2), .int (xs 1), .ref m, .int (-2)] C k_law_637_4 rfl ?_
  refine j_sld C hX hbl 3 (by decide) (jin (by decide) (by decide)) d_law_641 ?_
  obtain ⟨Vm, mst, mtp, mim, mso, mln, mit, mfS, hm, m0, m17, m21, m22, m37, m38, m39, m40, m41, hst, mt, him, hso, hfS, hln, hit, hrw, msl, msi, -⟩ := SM
  refine j_callVB (mc := 0) (ms := 0) C Rm Y [.int (xs 1), .int (xs 2), .int (xs 3)] [.int (-2)] (c_Mo_apart (jGl g) D (jGB g) (jGH g) w m Vm (xs 1) (xs 2) (xs 3) hm m0) cl_Law_67 (by rfl) (by rfl) hm d_law_642 rfl rfl (Nat.le_of_ble_eq_true rfl) ⟨Nat.le_of_ble_eq_true rfl, Nat.le_of_ble_eq_true rfl⟩ ⟨by have := hc2.1; show _ ≤ 0 + 600000; omega, by have := hc2.2; show _ ≤ 0 + 7302250; omega⟩ (fun v2 w2 p2 b2 => ?_)
  obtain ⟨rfl, rfl⟩ := p2
  have hc3 := hc2
  show JJ g w 645 [(3, .int 0), (2, .ref m), (1, .ref x), (0, .ref b)] [.int (-2), .int (-2)]
  refine j_icmp_eq (tgt := 1151) C d_law_645 (by decide) (fun c1 => ?_) (fun c1 => absurd (by decide) c1)
  exact kk w ⟨Nat.le_trans hc3.1 (by decide), Nat.le_trans hc3.2 (by decide)⟩
set_option maxHeartbeats 4000000 in
theorem lawc_12 {g : jG} {D : va_G} {b : Nat} {xs : Nat → Int32} {w : jW} {x m q : Nat} (E : lawE g D b 7 xs) (SX : lawX D w x (fun a => a < q)) (SM : lawM D w m (fun a => q ≤ a)) (hc : w.2.1 ≤ 810 ∧ w.2.2 ≤ 129790)
    (kk : ∀ w9 : jW, w9.2.1 ≤ 1000 ∧ w9.2.2 ≤ 200000 → JJ g w9 1151 [(3, .int 0), (2, .ref m), (1, .ref x), (0, .ref b)] []) : JJ g w 650 [(3, .int 0), (2, .ref m), (1, .ref x), (0, .ref b)] [] := by
  obtain ⟨C, Rm, hX, hbl, -⟩ := E
  have Y : jY g (jGl g) (jGB g) (jGH g) (jGy g) := ⟨rfl, rfl, rfl, rfl⟩
  obtain ⟨V, tp, pg, sh, rd, F, Vr, hx, h0, h1, h2, h3, h4, h5, h8, h9, ht, hpg, hsh, hrd, ⟨px, ptp, ppg, psh, prd⟩, hs⟩ := SX
  refine j_blk 655 [(3, .int 0), (2, .ref m), (1, .ref x), (0, .ref b)] [.int 1, .ref b, .ref x] C k_law_650_5 rfl ?_
  refine j_sld C hX hbl 1 (by decide) (jin (by decide) (by decide)) d_law_655 ?_
  refine j_blk 660 [(3, .int 0), (2, .ref m), (1, .ref x), (0, .ref b)] [.int 2, .ref b, .int (xs 1), .ref x] C k_law_656_4 rfl ?_
  refine j_sld C hX hbl 2 (by decide) (jin (by decide) (by decide)) d_law_660 ?_
  refine j_callVB (mc := 0) (ms := 0) C Rm Y [.int (xs 1), .int (xs 2)] [] (c_CS_needed (jGl g) D (jGB g) (jGH g) w x V (xs 1) (xs 2) hx h3) cl_Law_68 (by rfl) (by rfl) hx d_law_661 rfl rfl (Nat.le_of_ble_eq_true rfl) ⟨Nat.le_of_ble_eq_true rfl, Nat.le_of_ble_eq_true rfl⟩ ⟨by have := hc.1; show _ ≤ 0 + 600000; omega, by have := hc.2; show _ ≤ 0 + 7302250; omega⟩ (fun v1 w1 p1 b1 => ?_)
  obtain ⟨rfl, rfl⟩ := p1
  have hc2 : w.2.1 ≤ 900 ∧ w.2.2 ≤ 150000 := ⟨by have := hc.1; omega, by have := hc.2; omega⟩
  show JJ g w 664 [(3, .int 0), (2, .ref m), (1, .ref x), (0, .ref b)] [.int (-2)]
  refine j_blk 669 [(3, .int 0), (2, .ref m), (1, .ref x), (0, .ref b)] [.int 1, .ref b, .ref m, .int (-2)] C k_law_664_5 rfl ?_
  refine j_sld C hX hbl 1 (by decide) (jin (by decide) (by decide)) d_law_669 ?_
  refine j_blk 674 [(3, .int 0), (2, .ref m), (1, .ref x), (0, .ref b)] [.int 2, .ref b, .int (xs 1), .ref m, .int (-2)] C k_law_670_4 rfl ?_
  refine j_sld C hX hbl 2 (by decide) (jin (by decide) (by decide)) d_law_674 ?_
  obtain ⟨Vm, mst, mtp, mim, mso, mln, mit, mfS, hm, m0, m17, m21, m22, m37, m38, m39, m40, m41, hst, mt, him, hso, hfS, hln, hit, hrw, msl, msi, -⟩ := SM
  refine j_callVB (mc := 0) (ms := 0) C Rm Y [.int (xs 1), .int (xs 2)] [.int (-2)] (c_Mo_needed (jGl g) D (jGB g) (jGH g) w m Vm (xs 1) (xs 2) hm m0) cl_Law_71 (by rfl) (by rfl) hm d_law_675 rfl rfl (Nat.le_of_ble_eq_true rfl) ⟨Nat.le_of_ble_eq_true rfl, Nat.le_of_ble_eq_true rfl⟩ ⟨by have := hc2.1; show _ ≤ 0 + 600000; omega, by have := hc2.2; show _ ≤ 0 + 7302250; omega⟩ (fun v2 w2 p2 b2 => ?_)
  obtain ⟨rfl, rfl⟩ := p2
  have hc3 := hc2
  show JJ g w 678 [(3, .int 0), (2, .ref m), (1, .ref x), (0, .ref b)] [.int (-2), .int (-2)]
  refine j_icmp_eq (tgt := 1151) C d_law_678 (by decide) (fun c1 => ?_) (fun c1 => absurd (by decide) c1)
  exact kk w ⟨Nat.le_trans hc3.1 (by decide), Nat.le_trans hc3.2 (by decide)⟩
set_option maxHeartbeats 4000000 in
theorem lawc_13 {g : jG} {D : va_G} {b : Nat} {xs : Nat → Int32} {w : jW} {x m q : Nat} (E : lawE g D b 7 xs) (SX : lawX D w x (fun a => a < q)) (SM : lawM D w m (fun a => q ≤ a)) (hc : w.2.1 ≤ 810 ∧ w.2.2 ≤ 129790)
    (kk : ∀ w9 : jW, w9.2.1 ≤ 1000 ∧ w9.2.2 ≤ 200000 → JJ g w9 1151 [(3, .int 0), (2, .ref m), (1, .ref x), (0, .ref b)] []) : JJ g w 683 [(3, .int 0), (2, .ref m), (1, .ref x), (0, .ref b)] [] := by
  obtain ⟨C, Rm, hX, hbl, -⟩ := E
  have Y : jY g (jGl g) (jGB g) (jGH g) (jGy g) := ⟨rfl, rfl, rfl, rfl⟩
  obtain ⟨V, tp, pg, sh, rd, F, Vr, hx, h0, h1, h2, h3, h4, h5, h8, h9, ht, hpg, hsh, hrd, ⟨px, ptp, ppg, psh, prd⟩, hs⟩ := SX
  refine j_blk 688 [(3, .int 0), (2, .ref m), (1, .ref x), (0, .ref b)] [.int 1, .ref b, .ref x] C k_law_683_5 rfl ?_
  refine j_sld C hX hbl 1 (by decide) (jin (by decide) (by decide)) d_law_688 ?_
  refine j_blk 693 [(3, .int 0), (2, .ref m), (1, .ref x), (0, .ref b)] [.int 2, .ref b, .int (xs 1), .ref x] C k_law_689_4 rfl ?_
  refine j_sld C hX hbl 2 (by decide) (jin (by decide) (by decide)) d_law_693 ?_
  refine j_callVB (mc := 0) (ms := 0) C Rm Y [.int (xs 1), .int (xs 2)] [] (c_CS_peak (jGl g) D (jGB g) (jGH g) w x V (xs 1) (xs 2) hx h3) cl_Law_72 (by rfl) (by rfl) hx d_law_694 rfl rfl (Nat.le_of_ble_eq_true rfl) ⟨Nat.le_of_ble_eq_true rfl, Nat.le_of_ble_eq_true rfl⟩ ⟨by have := hc.1; show _ ≤ 0 + 600000; omega, by have := hc.2; show _ ≤ 0 + 7302250; omega⟩ (fun v1 w1 p1 b1 => ?_)
  obtain ⟨rfl, rfl⟩ := p1
  have hc2 : w.2.1 ≤ 900 ∧ w.2.2 ≤ 150000 := ⟨by have := hc.1; omega, by have := hc.2; omega⟩
  show JJ g w 697 [(3, .int 0), (2, .ref m), (1, .ref x), (0, .ref b)] [.int (-2)]
  refine j_blk 702 [(3, .int 0), (2, .ref m), (1, .ref x), (0, .ref b)] [.int 1, .ref b, .ref m, .int (-2)] C k_law_697_5 rfl ?_
  refine j_sld C hX hbl 1 (by decide) (jin (by decide) (by decide)) d_law_702 ?_
  refine j_blk 707 [(3, .int 0), (2, .ref m), (1, .ref x), (0, .ref b)] [.int 2, .ref b, .int (xs 1), .ref m, .int (-2)] C k_law_703_4 rfl ?_
  refine j_sld C hX hbl 2 (by decide) (jin (by decide) (by decide)) d_law_707 ?_
  obtain ⟨Vm, mst, mtp, mim, mso, mln, mit, mfS, hm, m0, m17, m21, m22, m37, m38, m39, m40, m41, hst, mt, him, hso, hfS, hln, hit, hrw, msl, msi, -⟩ := SM
  refine j_callVB (mc := 0) (ms := 0) C Rm Y [.int (xs 1), .int (xs 2)] [.int (-2)] (c_Mo_peak (jGl g) D (jGB g) (jGH g) w m Vm (xs 1) (xs 2) hm m0) cl_Law_75 (by rfl) (by rfl) hm d_law_708 rfl rfl (Nat.le_of_ble_eq_true rfl) ⟨Nat.le_of_ble_eq_true rfl, Nat.le_of_ble_eq_true rfl⟩ ⟨by have := hc2.1; show _ ≤ 0 + 600000; omega, by have := hc2.2; show _ ≤ 0 + 7302250; omega⟩ (fun v2 w2 p2 b2 => ?_)
  obtain ⟨rfl, rfl⟩ := p2
  have hc3 := hc2
  show JJ g w 711 [(3, .int 0), (2, .ref m), (1, .ref x), (0, .ref b)] [.int (-2), .int (-2)]
  refine j_icmp_eq (tgt := 1151) C d_law_711 (by decide) (fun c1 => ?_) (fun c1 => absurd (by decide) c1)
  exact kk w ⟨Nat.le_trans hc3.1 (by decide), Nat.le_trans hc3.2 (by decide)⟩
set_option maxHeartbeats 4000000 in
theorem lawc_14 {g : jG} {D : va_G} {b : Nat} {xs : Nat → Int32} {w : jW} {x m q : Nat} (E : lawE g D b 7 xs) (SX : lawX D w x (fun a => a < q)) (SM : lawM D w m (fun a => q ≤ a)) (hc : w.2.1 ≤ 810 ∧ w.2.2 ≤ 129790)
    (kk : ∀ w9 : jW, w9.2.1 ≤ 1000 ∧ w9.2.2 ≤ 200000 → JJ g w9 1151 [(3, .int 0), (2, .ref m), (1, .ref x), (0, .ref b)] []) : JJ g w 716 [(3, .int 0), (2, .ref m), (1, .ref x), (0, .ref b)] [] := by
  obtain ⟨C, Rm, hX, hbl, -⟩ := E
  have Y : jY g (jGl g) (jGB g) (jGH g) (jGy g) := ⟨rfl, rfl, rfl, rfl⟩
  obtain ⟨V, tp, pg, sh, rd, F, Vr, hx, h0, h1, h2, h3, h4, h5, h8, h9, ht, hpg, hsh, hrd, ⟨px, ptp, ppg, psh, prd⟩, hs⟩ := SX
  refine j_blk 721 [(3, .int 0), (2, .ref m), (1, .ref x), (0, .ref b)] [.int 1, .ref b, .ref x] C k_law_716_5 rfl ?_
  refine j_sld C hX hbl 1 (by decide) (jin (by decide) (by decide)) d_law_721 ?_
  refine j_blk 726 [(3, .int 0), (2, .ref m), (1, .ref x), (0, .ref b)] [.int 2, .ref b, .int (xs 1), .ref x] C k_law_722_4 rfl ?_
  refine j_sld C hX hbl 2 (by decide) (jin (by decide) (by decide)) d_law_726 ?_
  refine j_callVB (mc := 0) (ms := 0) C Rm Y [.int (xs 1), .int (xs 2)] [] (c_CS_alike (jGl g) D (jGB g) (jGH g) w x V (xs 1) (xs 2) hx h3) cl_Law_76 (by rfl) (by rfl) hx d_law_727 rfl rfl (Nat.le_of_ble_eq_true rfl) ⟨Nat.le_of_ble_eq_true rfl, Nat.le_of_ble_eq_true rfl⟩ ⟨by have := hc.1; show _ ≤ 0 + 600000; omega, by have := hc.2; show _ ≤ 0 + 7302250; omega⟩ (fun v1 w1 p1 b1 => ?_)
  obtain ⟨rfl, rfl⟩ := p1
  have hc2 : w.2.1 ≤ 900 ∧ w.2.2 ≤ 150000 := ⟨by have := hc.1; omega, by have := hc.2; omega⟩
  show JJ g w 730 [(3, .int 0), (2, .ref m), (1, .ref x), (0, .ref b)] [.int (-2)]
  refine j_blk 735 [(3, .int 0), (2, .ref m), (1, .ref x), (0, .ref b)] [.int 1, .ref b, .ref m, .int (-2)] C k_law_730_5 rfl ?_
  refine j_sld C hX hbl 1 (by decide) (jin (by decide) (by decide)) d_law_735 ?_
  refine j_blk 740 [(3, .int 0), (2, .ref m), (1, .ref x), (0, .ref b)] [.int 2, .ref b, .int (xs 1), .ref m, .int (-2)] C k_law_736_4 rfl ?_
  refine j_sld C hX hbl 2 (by decide) (jin (by decide) (by decide)) d_law_740 ?_
  obtain ⟨Vm, mst, mtp, mim, mso, mln, mit, mfS, hm, m0, m17, m21, m22, m37, m38, m39, m40, m41, hst, mt, him, hso, hfS, hln, hit, hrw, msl, msi, -⟩ := SM
  refine j_callVB (mc := 0) (ms := 0) C Rm Y [.int (xs 1), .int (xs 2)] [.int (-2)] (c_Mo_alike (jGl g) D (jGB g) (jGH g) w m Vm (xs 1) (xs 2) hm m0) cl_Law_79 (by rfl) (by rfl) hm d_law_741 rfl rfl (Nat.le_of_ble_eq_true rfl) ⟨Nat.le_of_ble_eq_true rfl, Nat.le_of_ble_eq_true rfl⟩ ⟨by have := hc2.1; show _ ≤ 0 + 600000; omega, by have := hc2.2; show _ ≤ 0 + 7302250; omega⟩ (fun v2 w2 p2 b2 => ?_)
  obtain ⟨rfl, rfl⟩ := p2
  have hc3 := hc2
  show JJ g w 744 [(3, .int 0), (2, .ref m), (1, .ref x), (0, .ref b)] [.int (-2), .int (-2)]
  refine j_icmp_eq (tgt := 1151) C d_law_744 (by decide) (fun c1 => ?_) (fun c1 => absurd (by decide) c1)
  exact kk w ⟨Nat.le_trans hc3.1 (by decide), Nat.le_trans hc3.2 (by decide)⟩
set_option maxHeartbeats 4000000 in
theorem lawc_15 {g : jG} {D : va_G} {b : Nat} {xs : Nat → Int32} {w : jW} {x m q : Nat} (E : lawE g D b 7 xs) (SX : lawX D w x (fun a => a < q)) (SM : lawM D w m (fun a => q ≤ a)) (hc : w.2.1 ≤ 810 ∧ w.2.2 ≤ 129790)
    (kk : ∀ w9 : jW, w9.2.1 ≤ 1000 ∧ w9.2.2 ≤ 200000 → JJ g w9 1151 [(3, .int 0), (2, .ref m), (1, .ref x), (0, .ref b)] []) : JJ g w 749 [(3, .int 0), (2, .ref m), (1, .ref x), (0, .ref b)] [] := by
  obtain ⟨C, Rm, hX, hbl, -⟩ := E
  have Y : jY g (jGl g) (jGB g) (jGH g) (jGy g) := ⟨rfl, rfl, rfl, rfl⟩
  obtain ⟨V, tp, pg, sh, rd, F, Vr, hx, h0, h1, h2, h3, h4, h5, h8, h9, ht, hpg, hsh, hrd, ⟨px, ptp, ppg, psh, prd⟩, hs⟩ := SX
  refine j_blk 754 [(3, .int 0), (2, .ref m), (1, .ref x), (0, .ref b)] [.int 1, .ref b, .ref x] C k_law_749_5 rfl ?_
  refine j_sld C hX hbl 1 (by decide) (jin (by decide) (by decide)) d_law_754 ?_
  refine j_blk 759 [(3, .int 0), (2, .ref m), (1, .ref x), (0, .ref b)] [.int 2, .ref b, .int (xs 1), .ref x] C k_law_755_4 rfl ?_
  refine j_sld C hX hbl 2 (by decide) (jin (by decide) (by decide)) d_law_759 ?_
  refine j_callVB (mc := 0) (ms := 0) C Rm Y [.int (xs 1), .int (xs 2)] [] (c_CS_comes (jGl g) D (jGB g) (jGH g) w x V (xs 1) (xs 2) hx h3) cl_Law_80 (by rfl) (by rfl) hx d_law_760 rfl rfl (Nat.le_of_ble_eq_true rfl) ⟨Nat.le_of_ble_eq_true rfl, Nat.le_of_ble_eq_true rfl⟩ ⟨by have := hc.1; show _ ≤ 0 + 600000; omega, by have := hc.2; show _ ≤ 0 + 7302250; omega⟩ (fun v1 w1 p1 b1 => ?_)
  obtain ⟨rfl, rfl⟩ := p1
  have hc2 : w.2.1 ≤ 900 ∧ w.2.2 ≤ 150000 := ⟨by have := hc.1; omega, by have := hc.2; omega⟩
  show JJ g w 763 [(3, .int 0), (2, .ref m), (1, .ref x), (0, .ref b)] [.int (-2)]
  refine j_blk 768 [(3, .int 0), (2, .ref m), (1, .ref x), (0, .ref b)] [.int 1, .ref b, .ref m, .int (-2)] C k_law_763_5 rfl ?_
  refine j_sld C hX hbl 1 (by decide) (jin (by decide) (by decide)) d_law_768 ?_
  refine j_blk 773 [(3, .int 0), (2, .ref m), (1, .ref x), (0, .ref b)] [.int 2, .ref b, .int (xs 1), .ref m, .int (-2)] C k_law_769_4 rfl ?_
  refine j_sld C hX hbl 2 (by decide) (jin (by decide) (by decide)) d_law_773 ?_
  obtain ⟨Vm, mst, mtp, mim, mso, mln, mit, mfS, hm, m0, m17, m21, m22, m37, m38, m39, m40, m41, hst, mt, him, hso, hfS, hln, hit, hrw, msl, msi, -⟩ := SM
  refine j_callVB (mc := 0) (ms := 0) C Rm Y [.int (xs 1), .int (xs 2)] [.int (-2)] (c_Mo_comes (jGl g) D (jGB g) (jGH g) w m Vm (xs 1) (xs 2) hm m0) cl_Law_83 (by rfl) (by rfl) hm d_law_774 rfl rfl (Nat.le_of_ble_eq_true rfl) ⟨Nat.le_of_ble_eq_true rfl, Nat.le_of_ble_eq_true rfl⟩ ⟨by have := hc2.1; show _ ≤ 0 + 600000; omega, by have := hc2.2; show _ ≤ 0 + 7302250; omega⟩ (fun v2 w2 p2 b2 => ?_)
  obtain ⟨rfl, rfl⟩ := p2
  have hc3 := hc2
  show JJ g w 777 [(3, .int 0), (2, .ref m), (1, .ref x), (0, .ref b)] [.int (-2), .int (-2)]
  refine j_icmp_eq (tgt := 1151) C d_law_777 (by decide) (fun c1 => ?_) (fun c1 => absurd (by decide) c1)
  exact kk w ⟨Nat.le_trans hc3.1 (by decide), Nat.le_trans hc3.2 (by decide)⟩
set_option maxHeartbeats 4000000 in
theorem lawc_16 {g : jG} {D : va_G} {b : Nat} {xs : Nat → Int32} {w : jW} {x m q : Nat} (E : lawE g D b 7 xs) (SX : lawX D w x (fun a => a < q)) (SM : lawM D w m (fun a => q ≤ a)) (hc : w.2.1 ≤ 810 ∧ w.2.2 ≤ 129790)
    (kk : ∀ w9 : jW, w9.2.1 ≤ 1000 ∧ w9.2.2 ≤ 200000 → JJ g w9 1151 [(3, .int 0), (2, .ref m), (1, .ref x), (0, .ref b)] []) : JJ g w 782 [(3, .int 0), (2, .ref m), (1, .ref x), (0, .ref b)] [] := by
  obtain ⟨C, Rm, hX, hbl, -⟩ := E
  have Y : jY g (jGl g) (jGB g) (jGH g) (jGy g) := ⟨rfl, rfl, rfl, rfl⟩
  obtain ⟨V, tp, pg, sh, rd, F, Vr, hx, h0, h1, h2, h3, h4, h5, h8, h9, ht, hpg, hsh, hrd, ⟨px, ptp, ppg, psh, prd⟩, hs⟩ := SX
  refine j_blk 787 [(3, .int 0), (2, .ref m), (1, .ref x), (0, .ref b)] [.int 1, .ref b, .ref x] C k_law_782_5 rfl ?_
  refine j_sld C hX hbl 1 (by decide) (jin (by decide) (by decide)) d_law_787 ?_
  refine j_blk 792 [(3, .int 0), (2, .ref m), (1, .ref x), (0, .ref b)] [.int 2, .ref b, .int (xs 1), .ref x] C k_law_788_4 rfl ?_
  refine j_sld C hX hbl 2 (by decide) (jin (by decide) (by decide)) d_law_792 ?_
  refine j_blk 797 [(3, .int 0), (2, .ref m), (1, .ref x), (0, .ref b)] [.int 3, .ref b, .int (xs 2), .int (xs 1), .ref x] C k_law_793_4 rfl ?_
  refine j_sld C hX hbl 3 (by decide) (jin (by decide) (by decide)) d_law_797 ?_
  refine j_blk 802 [(3, .int 0), (2, .ref m), (1, .ref x), (0, .ref b)] [.int 4, .ref b, .int (xs 3), .int (xs 2), .int (xs 1), .ref x] C k_law_798_4 rfl ?_
  refine j_sld C hX hbl 4 (by decide) (jin (by decide) (by decide)) d_law_802 ?_
  refine j_blk 807 [(3, .int 0), (2, .ref m), (1, .ref x), (0, .ref b)] [.int 5, .ref b, .int (xs 4), .int (xs 3), .int (xs 2), .int (xs 1), .ref x] C k_law_803_4 rfl ?_
  refine j_sld C hX hbl 5 (by decide) (jin (by decide) (by decide)) d_law_807 ?_
  refine j_blk 813 [(3, .int 0), (2, .ref m), (1, .ref x), (0, .ref b)] [.int 6, .ref b, .int (xs 5), .int (xs 4), .int (xs 3), .int (xs 2), .int (xs 1), .ref x] C k_law_808_4 rfl ?_
  refine j_sld C hX hbl 6 (by decide) (jin (by decide) (by decide)) d_law_813 ?_
  refine j_callVB (mc := 0) (ms := 0) C Rm Y [.int (xs 1), .int (xs 2), .int (xs 3), .int (xs 4), .int (xs 5), .int (xs 6)] [] (c_CS_often (jGl g) D (jGB g) (jGH g) w x V (xs 1) (xs 2) (xs 3) (xs 4) (xs 5) (xs 6) hx h3) cl_Law_84 (by rfl) (by rfl) hx d_law_814 rfl rfl (Nat.le_of_ble_eq_true rfl) ⟨Nat.le_of_ble_eq_true rfl, Nat.le_of_ble_eq_true rfl⟩ ⟨by have := hc.1; show _ ≤ 0 + 600000; omega, by have := hc.2; show _ ≤ 0 + 7302250; omega⟩ (fun v1 w1 p1 b1 => ?_)
  obtain ⟨rfl, rfl⟩ := p1
  have hc2 : w.2.1 ≤ 900 ∧ w.2.2 ≤ 150000 := ⟨by have := hc.1; omega, by have := hc.2; omega⟩
  show JJ g w 817 [(3, .int 0), (2, .ref m), (1, .ref x), (0, .ref b)] [.int (-2)]
  refine j_blk 822 [(3, .int 0), (2, .ref m), (1, .ref x), (0, .ref b)] [.int 1, .ref b, .ref m, .int (-2)] C k_law_817_5 rfl ?_
  refine j_sld C hX hbl 1 (by decide) (jin (by decide) (by decide)) d_law_822 ?_
  refine j_blk 827 [(3, .int 0), (2, .ref m), (1, .ref x), (0, .ref b)] [.int 2, .ref b, .int (xs 1), .ref m, .int (-2)] C k_law_823_4 rfl ?_
  refine j_sld C hX hbl 2 (by decide) (jin (by decide) (by decide)) d_law_827 ?_
  refine j_blk 832 [(3, .int 0), (2, .ref m), (1, .ref x), (0, .ref b)] [.int 3, .ref b, .int (xs 2), .int (xs 1), .ref m, .int (-2)] C k_law_828_4 rfl ?_
  refine j_sld C hX hbl 3 (by decide) (jin (by decide) (by decide)) d_law_832 ?_
  refine j_blk 837 [(3, .int 0), (2, .ref m), (1, .ref x), (0, .ref b)] [.int 4, .ref b, .int (xs 3), .int (xs 2), .int (xs 1), .ref m, .int (-2)] C k_law_833_4 rfl ?_
  refine j_sld C hX hbl 4 (by decide) (jin (by decide) (by decide)) d_law_837 ?_
  refine j_blk 842 [(3, .int 0), (2, .ref m), (1, .ref x), (0, .ref b)] [.int 5, .ref b, .int (xs 4), .int (xs 3), .int (xs 2), .int (xs 1), .ref m, .int (-2)] C k_law_838_4 rfl ?_
  refine j_sld C hX hbl 5 (by decide) (jin (by decide) (by decide)) d_law_842 ?_
  refine j_blk 848 [(3, .int 0), (2, .ref m), (1, .ref x), (0, .ref b)] [.int 6, .ref b, .int (xs 5), .int (xs 4), .int (xs 3), .int (xs 2), .int (xs 1), .ref m, .int (-2)] C k_law_843_4 rfl ?_
  refine j_sld C hX hbl 6 (by decide) (jin (by decide) (by decide)) d_law_848 ?_
  obtain ⟨Vm, mst, mtp, mim, mso, mln, mit, mfS, hm, m0, m17, m21, m22, m37, m38, m39, m40, m41, hst, mt, him, hso, hfS, hln, hit, hrw, msl, msi, -⟩ := SM
  refine j_callVB (mc := 0) (ms := 0) C Rm Y [.int (xs 1), .int (xs 2), .int (xs 3), .int (xs 4), .int (xs 5), .int (xs 6)] [.int (-2)] (c_Mo_often (jGl g) D (jGB g) (jGH g) w m Vm (xs 1) (xs 2) (xs 3) (xs 4) (xs 5) (xs 6) hm m0) cl_Law_87 (by rfl) (by rfl) hm d_law_849 rfl rfl (Nat.le_of_ble_eq_true rfl) ⟨Nat.le_of_ble_eq_true rfl, Nat.le_of_ble_eq_true rfl⟩ ⟨by have := hc2.1; show _ ≤ 0 + 600000; omega, by have := hc2.2; show _ ≤ 0 + 7302250; omega⟩ (fun v2 w2 p2 b2 => ?_)
  obtain ⟨rfl, rfl⟩ := p2
  have hc3 := hc2
  show JJ g w 852 [(3, .int 0), (2, .ref m), (1, .ref x), (0, .ref b)] [.int (-2), .int (-2)]
  refine j_icmp_eq (tgt := 1151) C d_law_852 (by decide) (fun c1 => ?_) (fun c1 => absurd (by decide) c1)
  exact kk w ⟨Nat.le_trans hc3.1 (by decide), Nat.le_trans hc3.2 (by decide)⟩
set_option maxHeartbeats 4000000 in
theorem lawc_17 {g : jG} {D : va_G} {b : Nat} {xs : Nat → Int32} {w : jW} {x m q : Nat} (E : lawE g D b 7 xs) (SX : lawX D w x (fun a => a < q)) (SM : lawM D w m (fun a => q ≤ a)) (hc : w.2.1 ≤ 810 ∧ w.2.2 ≤ 129790)
    (kk : ∀ w9 : jW, w9.2.1 ≤ 1000 ∧ w9.2.2 ≤ 200000 → JJ g w9 1151 [(3, .int 0), (2, .ref m), (1, .ref x), (0, .ref b)] []) : JJ g w 857 [(3, .int 0), (2, .ref m), (1, .ref x), (0, .ref b)] [] := by
  obtain ⟨C, Rm, hX, hbl, -⟩ := E
  have Y : jY g (jGl g) (jGB g) (jGH g) (jGy g) := ⟨rfl, rfl, rfl, rfl⟩
  obtain ⟨V, tp, pg, sh, rd, F, Vr, hx, h0, h1, h2, h3, h4, h5, h8, h9, ht, hpg, hsh, hrd, ⟨px, ptp, ppg, psh, prd⟩, hs⟩ := SX
  refine j_blk 862 [(3, .int 0), (2, .ref m), (1, .ref x), (0, .ref b)] [.int 1, .ref b, .ref x] C k_law_857_5 rfl ?_
  refine j_sld C hX hbl 1 (by decide) (jin (by decide) (by decide)) d_law_862 ?_
  refine j_blk 867 [(3, .int 0), (2, .ref m), (1, .ref x), (0, .ref b)] [.int 2, .ref b, .int (xs 1), .ref x] C k_law_863_4 rfl ?_
  refine j_sld C hX hbl 2 (by decide) (jin (by decide) (by decide)) d_law_867 ?_
  refine j_blk 872 [(3, .int 0), (2, .ref m), (1, .ref x), (0, .ref b)] [.int 3, .ref b, .int (xs 2), .int (xs 1), .ref x] C k_law_868_4 rfl ?_
  refine j_sld C hX hbl 3 (by decide) (jin (by decide) (by decide)) d_law_872 ?_
  refine j_blk 877 [(3, .int 0), (2, .ref m), (1, .ref x), (0, .ref b)] [.int 4, .ref b, .int (xs 3), .int (xs 2), .int (xs 1), .ref x] C k_law_873_4 rfl ?_
  refine j_sld C hX hbl 4 (by decide) (jin (by decide) (by decide)) d_law_877 ?_
  refine j_callVB (mc := 0) (ms := 0) C Rm Y [.int (xs 1), .int (xs 2), .int (xs 3), .int (xs 4)] [] (c_CS_tells (jGl g) D (jGB g) (jGH g) w x V (xs 1) (xs 2) (xs 3) (xs 4) hx h3) cl_Law_88 (by rfl) (by rfl) hx d_law_878 rfl rfl (Nat.le_of_ble_eq_true rfl) ⟨Nat.le_of_ble_eq_true rfl, Nat.le_of_ble_eq_true rfl⟩ ⟨by have := hc.1; show _ ≤ 0 + 600000; omega, by have := hc.2; show _ ≤ 0 + 7302250; omega⟩ (fun v1 w1 p1 b1 => ?_)
  obtain ⟨rfl, rfl⟩ := p1
  have hc2 : w.2.1 ≤ 900 ∧ w.2.2 ≤ 150000 := ⟨by have := hc.1; omega, by have := hc.2; omega⟩
  show JJ g w 881 [(3, .int 0), (2, .ref m), (1, .ref x), (0, .ref b)] [.int (-2)]
  refine j_blk 886 [(3, .int 0), (2, .ref m), (1, .ref x), (0, .ref b)] [.int 1, .ref b, .ref m, .int (-2)] C k_law_881_5 rfl ?_
  refine j_sld C hX hbl 1 (by decide) (jin (by decide) (by decide)) d_law_886 ?_
  refine j_blk 891 [(3, .int 0), (2, .ref m), (1, .ref x), (0, .ref b)] [.int 2, .ref b, .int (xs 1), .ref m, .int (-2)] C k_law_887_4 rfl ?_
  refine j_sld C hX hbl 2 (by decide) (jin (by decide) (by decide)) d_law_891 ?_
  refine j_blk 896 [(3, .int 0), (2, .ref m), (1, .ref x), (0, .ref b)] [.int 3, .ref b, .int (xs 2), .int (xs 1), .ref m, .int (-2)] C k_law_892_4 rfl ?_
  refine j_sld C hX hbl 3 (by decide) (jin (by decide) (by decide)) d_law_896 ?_
  refine j_blk 901 [(3, .int 0), (2, .ref m), (1, .ref x), (0, .ref b)] [.int 4, .ref b, .int (xs 3), .int (xs 2), .int (xs 1), .ref m, .int (-2)] C k_law_897_4 rfl ?_
  refine j_sld C hX hbl 4 (by decide) (jin (by decide) (by decide)) d_law_901 ?_
  obtain ⟨Vm, mst, mtp, mim, mso, mln, mit, mfS, hm, m0, m17, m21, m22, m37, m38, m39, m40, m41, hst, mt, him, hso, hfS, hln, hit, hrw, msl, msi, -⟩ := SM
  refine j_callVB (mc := 0) (ms := 0) C Rm Y [.int (xs 1), .int (xs 2), .int (xs 3), .int (xs 4)] [.int (-2)] (c_Mo_tells (jGl g) D (jGB g) (jGH g) w m Vm (xs 1) (xs 2) (xs 3) (xs 4) hm m0) cl_Law_92 (by rfl) (by rfl) hm d_law_902 rfl rfl (Nat.le_of_ble_eq_true rfl) ⟨Nat.le_of_ble_eq_true rfl, Nat.le_of_ble_eq_true rfl⟩ ⟨by have := hc2.1; show _ ≤ 0 + 600000; omega, by have := hc2.2; show _ ≤ 0 + 7302250; omega⟩ (fun v2 w2 p2 b2 => ?_)
  obtain ⟨rfl, rfl⟩ := p2
  have hc3 := hc2
  show JJ g w 905 [(3, .int 0), (2, .ref m), (1, .ref x), (0, .ref b)] [.int (-2), .int (-2)]
  refine j_icmp_eq (tgt := 1151) C d_law_905 (by decide) (fun c1 => ?_) (fun c1 => absurd (by decide) c1)
  exact kk w ⟨Nat.le_trans hc3.1 (by decide), Nat.le_trans hc3.2 (by decide)⟩
set_option maxHeartbeats 4000000 in
theorem lawc_18 {g : jG} {D : va_G} {b : Nat} {xs : Nat → Int32} {w : jW} {x m q : Nat} (E : lawE g D b 7 xs) (SX : lawX D w x (fun a => a < q)) (SM : lawM D w m (fun a => q ≤ a)) (hc : w.2.1 ≤ 810 ∧ w.2.2 ≤ 129790)
    (kk : ∀ w9 : jW, w9.2.1 ≤ 1000 ∧ w9.2.2 ≤ 200000 → JJ g w9 1151 [(3, .int 0), (2, .ref m), (1, .ref x), (0, .ref b)] []) : JJ g w 910 [(3, .int 0), (2, .ref m), (1, .ref x), (0, .ref b)] [] := by
  obtain ⟨C, Rm, hX, hbl, -⟩ := E
  have Y : jY g (jGl g) (jGB g) (jGH g) (jGy g) := ⟨rfl, rfl, rfl, rfl⟩
  obtain ⟨V, tp, pg, sh, rd, F, Vr, hx, h0, h1, h2, h3, h4, h5, h8, h9, ht, hpg, hsh, hrd, ⟨px, ptp, ppg, psh, prd⟩, hs⟩ := SX
  refine j_blk 915 [(3, .int 0), (2, .ref m), (1, .ref x), (0, .ref b)] [.int 1, .ref b, .ref x] C k_law_910_5 rfl ?_
  refine j_sld C hX hbl 1 (by decide) (jin (by decide) (by decide)) d_law_915 ?_
  refine j_blk 920 [(3, .int 0), (2, .ref m), (1, .ref x), (0, .ref b)] [.int 2, .ref b, .int (xs 1), .ref x] C k_law_916_4 rfl ?_
  refine j_sld C hX hbl 2 (by decide) (jin (by decide) (by decide)) d_law_920 ?_
  refine j_blk 925 [(3, .int 0), (2, .ref m), (1, .ref x), (0, .ref b)] [.int 3, .ref b, .int (xs 2), .int (xs 1), .ref x] C k_law_921_4 rfl ?_
  refine j_sld C hX hbl 3 (by decide) (jin (by decide) (by decide)) d_law_925 ?_
  refine j_callVB (mc := 0) (ms := 0) C Rm Y [.int (xs 1), .int (xs 2), .int (xs 3)] [] (c_CS_film (jGl g) D (jGB g) (jGH g) w x V (xs 1) (xs 2) (xs 3) hx h3) cl_Law_93 (by rfl) (by rfl) hx d_law_926 rfl rfl (Nat.le_of_ble_eq_true rfl) ⟨Nat.le_of_ble_eq_true rfl, Nat.le_of_ble_eq_true rfl⟩ ⟨by have := hc.1; show _ ≤ 0 + 600000; omega, by have := hc.2; show _ ≤ 0 + 7302250; omega⟩ (fun v1 w1 p1 b1 => ?_)
  obtain ⟨rfl, rfl⟩ := p1
  have hc2 : w.2.1 ≤ 900 ∧ w.2.2 ≤ 150000 := ⟨by have := hc.1; omega, by have := hc.2; omega⟩
  show JJ g w 929 [(3, .int 0), (2, .ref m), (1, .ref x), (0, .ref b)] [.int (-2)]
  refine j_blk 934 [(3, .int 0), (2, .ref m), (1, .ref x), (0, .ref b)] [.int 1, .ref b, .ref m, .int (-2)] C k_law_929_5 rfl ?_
  refine j_sld C hX hbl 1 (by decide) (jin (by decide) (by decide)) d_law_934 ?_
  refine j_blk 939 [(3, .int 0), (2, .ref m), (1, .ref x), (0, .ref b)] [.int 2, .ref b, .int (xs 1), .ref m, .int (-2)] C k_law_935_4 rfl ?_
  refine j_sld C hX hbl 2 (by decide) (jin (by decide) (by decide)) d_law_939 ?_
  refine j_blk 944 [(3, .int 0), (2, .ref m), (1, .ref x), (0, .ref b)] [.int 3, .ref b, .int (xs 2), .int (xs 1), .ref m, .int (-2)] C k_law_940_4 rfl ?_
  refine j_sld C hX hbl 3 (by decide) (jin (by decide) (by decide)) d_law_944 ?_
  obtain ⟨Vm, mst, mtp, mim, mso, mln, mit, mfS, hm, m0, m17, m21, m22, m37, m38, m39, m40, m41, hst, mt, him, hso, hfS, hln, hit, hrw, msl, msi, -⟩ := SM
  refine j_callVB (mc := 0) (ms := 0) C Rm Y [.int (xs 1), .int (xs 2), .int (xs 3)] [.int (-2)] (c_Mo_film (jGl g) D (jGB g) (jGH g) w m Vm (xs 1) (xs 2) (xs 3) hm m0) cl_Law_96 (by rfl) (by rfl) hm d_law_945 rfl rfl (Nat.le_of_ble_eq_true rfl) ⟨Nat.le_of_ble_eq_true rfl, Nat.le_of_ble_eq_true rfl⟩ ⟨by have := hc2.1; show _ ≤ 0 + 600000; omega, by have := hc2.2; show _ ≤ 0 + 7302250; omega⟩ (fun v2 w2 p2 b2 => ?_)
  obtain ⟨rfl, rfl⟩ := p2
  have hc3 := hc2
  show JJ g w 948 [(3, .int 0), (2, .ref m), (1, .ref x), (0, .ref b)] [.int (-2), .int (-2)]
  refine j_icmp_eq (tgt := 1151) C d_law_948 (by decide) (fun c1 => ?_) (fun c1 => absurd (by decide) c1)
  exact kk w ⟨Nat.le_trans hc3.1 (by decide), Nat.le_trans hc3.2 (by decide)⟩
set_option maxHeartbeats 4000000 in
theorem lawc_19 {g : jG} {D : va_G} {b : Nat} {xs : Nat → Int32} {w : jW} {x m q : Nat} (E : lawE g D b 7 xs) (SX : lawX D w x (fun a => a < q)) (SM : lawM D w m (fun a => q ≤ a)) (hc : w.2.1 ≤ 810 ∧ w.2.2 ≤ 129790)
    (kk : ∀ w9 : jW, w9.2.1 ≤ 1000 ∧ w9.2.2 ≤ 200000 → JJ g w9 1151 [(3, .int 0), (2, .ref m), (1, .ref x), (0, .ref b)] []) : JJ g w 953 [(3, .int 0), (2, .ref m), (1, .ref x), (0, .ref b)] [] := by
  obtain ⟨C, Rm, hX, hbl, -⟩ := E
  have Y : jY g (jGl g) (jGB g) (jGH g) (jGy g) := ⟨rfl, rfl, rfl, rfl⟩
  obtain ⟨V, tp, pg, sh, rd, F, Vr, hx, h0, h1, h2, h3, h4, h5, h8, h9, ht, hpg, hsh, hrd, ⟨px, ptp, ppg, psh, prd⟩, hs⟩ := SX
  refine j_blk 954 [(3, .int 0), (2, .ref m), (1, .ref x), (0, .ref b)] [.ref x] C k_law_953_1 rfl ?_
  refine j_callVB (mc := 0) (ms := 0) C Rm Y [] [] (c_CS_image (jGl g) D (jGB g) (jGH g) w x V hx h3 h4 q px) cl_Law_97 (by rfl) (by rfl) hx d_law_954 rfl rfl (Nat.le_of_ble_eq_true rfl) ⟨Nat.le_of_ble_eq_true rfl, Nat.le_of_ble_eq_true rfl⟩ ⟨by have := hc.1; show _ ≤ 0 + 600000; omega, by have := hc.2; show _ ≤ 0 + 7302250; omega⟩ (fun v1 w1 p1 b1 => ?_)
  obtain ⟨rfl, fr1⟩ := p1
  have hc2 : w1.2.1 ≤ 900 ∧ w1.2.2 ≤ 150000 := ⟨by have := hc.1; have := b1.1; omega, by have := hc.2; have := b1.2; omega⟩
  have SM := SM.mono (fun a e ha pa => ⟨(fr1 a e ha).1 pa, pa⟩)
  show JJ g w1 957 [(3, .int 0), (2, .ref m), (1, .ref x), (0, .ref b)] [.int 0]
  refine j_blk 958 [(3, .int 0), (2, .ref m), (1, .ref x), (0, .ref b)] [.ref m, .int 0] C k_law_957_1 rfl ?_
  obtain ⟨Vm, mst, mtp, mim, mso, mln, mit, mfS, hm, m0, m17, m21, m22, m37, m38, m39, m40, m41, hst, mt, him, hso, hfS, hln, hit, hrw, msl, msi, -⟩ := SM
  refine j_callVB (mc := 0) (ms := 0) C Rm Y [] [.int 0] (c_Mo_image (jGl g) D (jGB g) (jGH g) w1 m Vm mst mim msi hm m0 m17 m38 hst him (m + mst + mim + 1) (by omega) (by omega) (by omega)) cl_Law_100 (by rfl) (by rfl) hm d_law_958 rfl rfl (Nat.le_of_ble_eq_true rfl) ⟨Nat.le_of_ble_eq_true rfl, Nat.le_of_ble_eq_true rfl⟩ ⟨by have := hc2.1; show _ ≤ 0 + 600000; omega, by have := hc2.2; show _ ≤ 0 + 7302250; omega⟩ (fun v2 w2 p2 b2 => ?_)
  obtain ⟨rfl, -⟩ := p2
  have hc3 : w2.2.1 ≤ 1000 ∧ w2.2.2 ≤ 200000 := ⟨by have := hc2.1; have := b2.1; omega, by have := hc2.2; have := b2.2; omega⟩
  show JJ g w2 961 [(3, .int 0), (2, .ref m), (1, .ref x), (0, .ref b)] [.int 0, .int 0]
  refine j_icmp_eq (tgt := 1151) C d_law_961 (by decide) (fun c1 => ?_) (fun c1 => absurd (by decide) c1)
  exact kk w2 ⟨Nat.le_trans hc3.1 (by decide), Nat.le_trans hc3.2 (by decide)⟩
set_option maxHeartbeats 4000000 in
theorem lawc_20 {g : jG} {D : va_G} {b : Nat} {xs : Nat → Int32} {w : jW} {x m q : Nat} (E : lawE g D b 7 xs) (SX : lawX D w x (fun a => a < q)) (SM : lawM D w m (fun a => q ≤ a)) (hc : w.2.1 ≤ 810 ∧ w.2.2 ≤ 129790)
    (kk : ∀ w9 : jW, w9.2.1 ≤ 1000 ∧ w9.2.2 ≤ 200000 → JJ g w9 1151 [(3, .int 0), (2, .ref m), (1, .ref x), (0, .ref b)] []) : JJ g w 966 [(3, .int 0), (2, .ref m), (1, .ref x), (0, .ref b)] [] := by
  obtain ⟨C, Rm, hX, hbl, -⟩ := E
  have Y : jY g (jGl g) (jGB g) (jGH g) (jGy g) := ⟨rfl, rfl, rfl, rfl⟩
  obtain ⟨V, tp, pg, sh, rd, F, Vr, hx, h0, h1, h2, h3, h4, h5, h8, h9, ht, hpg, hsh, hrd, ⟨px, ptp, ppg, psh, prd⟩, hs⟩ := SX
  refine j_blk 967 [(3, .int 0), (2, .ref m), (1, .ref x), (0, .ref b)] [.ref x] C k_law_966_1 rfl ?_
  refine j_callVB (mc := 0) (ms := 0) C Rm Y [] [] (c_CS_back (jGl g) D (jGB g) (jGH g) w x V hx h5 q px) cl_Law_101 (by rfl) (by rfl) hx d_law_967 rfl rfl (Nat.le_of_ble_eq_true rfl) ⟨Nat.le_of_ble_eq_true rfl, Nat.le_of_ble_eq_true rfl⟩ ⟨by have := hc.1; show _ ≤ 0 + 600000; omega, by have := hc.2; show _ ≤ 0 + 7302250; omega⟩ (fun v1 w1 p1 b1 => ?_)
  obtain ⟨rfl, fr1⟩ := p1
  have hc2 : w1.2.1 ≤ 900 ∧ w1.2.2 ≤ 150000 := ⟨by have := hc.1; have := b1.1; omega, by have := hc.2; have := b1.2; omega⟩
  have SM := SM.mono (fun a e ha pa => ⟨(fr1 a e ha).1 pa, pa⟩)
  show JJ g w1 970 [(3, .int 0), (2, .ref m), (1, .ref x), (0, .ref b)] [.int (-3)]
  refine j_blk 971 [(3, .int 0), (2, .ref m), (1, .ref x), (0, .ref b)] [.ref m, .int (-3)] C k_law_970_1 rfl ?_
  obtain ⟨Vm, mst, mtp, mim, mso, mln, mit, mfS, hm, m0, m17, m21, m22, m37, m38, m39, m40, m41, hst, mt, him, hso, hfS, hln, hit, hrw, msl, msi, -⟩ := SM
  refine j_callVB (mc := 0) (ms := 0) C Rm Y [] [.int (-3)] (c_Mo_back (jGl g) D (jGB g) (jGH g) w1 m Vm hm m37 (m + 1) (by omega)) cl_Law_104 (by rfl) (by rfl) hm d_law_971 rfl rfl (Nat.le_of_ble_eq_true rfl) ⟨Nat.le_of_ble_eq_true rfl, Nat.le_of_ble_eq_true rfl⟩ ⟨by have := hc2.1; show _ ≤ 0 + 600000; omega, by have := hc2.2; show _ ≤ 0 + 7302250; omega⟩ (fun v2 w2 p2 b2 => ?_)
  obtain ⟨rfl, -⟩ := p2
  have hc3 : w2.2.1 ≤ 1000 ∧ w2.2.2 ≤ 200000 := ⟨by have := hc2.1; have := b2.1; omega, by have := hc2.2; have := b2.2; omega⟩
  show JJ g w2 974 [(3, .int 0), (2, .ref m), (1, .ref x), (0, .ref b)] [.int (-3), .int (-3)]
  refine j_icmp_eq (tgt := 1151) C d_law_974 (by decide) (fun c1 => ?_) (fun c1 => absurd (by decide) c1)
  exact kk w2 ⟨Nat.le_trans hc3.1 (by decide), Nat.le_trans hc3.2 (by decide)⟩
set_option maxHeartbeats 4000000 in
theorem lawc_21 {g : jG} {D : va_G} {b : Nat} {xs : Nat → Int32} {w : jW} {x m q : Nat} (E : lawE g D b 7 xs) (SX : lawX D w x (fun a => a < q)) (SM : lawM D w m (fun a => q ≤ a)) (hc : w.2.1 ≤ 810 ∧ w.2.2 ≤ 129790)
    (kk : ∀ w9 : jW, w9.2.1 ≤ 1000 ∧ w9.2.2 ≤ 200000 → JJ g w9 1151 [(3, .int 0), (2, .ref m), (1, .ref x), (0, .ref b)] []) : JJ g w 979 [(3, .int 0), (2, .ref m), (1, .ref x), (0, .ref b)] [] := by
  obtain ⟨C, Rm, hX, hbl, -⟩ := E
  have Y : jY g (jGl g) (jGB g) (jGH g) (jGy g) := ⟨rfl, rfl, rfl, rfl⟩
  obtain ⟨V, tp, pg, sh, rd, F, Vr, hx, h0, h1, h2, h3, h4, h5, h8, h9, ht, hpg, hsh, hrd, ⟨px, ptp, ppg, psh, prd⟩, hs⟩ := SX
  refine j_blk 984 [(3, .int 0), (2, .ref m), (1, .ref x), (0, .ref b)] [.int 1, .ref b, .ref x] C k_law_979_5 rfl ?_
  refine j_sld C hX hbl 1 (by decide) (jin (by decide) (by decide)) d_law_984 ?_
  refine j_callVB (mc := 0) (ms := 0) C Rm Y [.int (xs 1)] [] (c_CS_count (jGl g) D (jGB g) (jGH g) w x V (xs 1) hx h1 h3 h4 q px) cl_Law_105 (by rfl) (by rfl) hx d_law_985 rfl rfl (Nat.le_of_ble_eq_true rfl) ⟨Nat.le_of_ble_eq_true rfl, Nat.le_of_ble_eq_true rfl⟩ ⟨by have := hc.1; show _ ≤ 0 + 600000; omega, by have := hc.2; show _ ≤ 0 + 7302250; omega⟩ (fun v1 w1 p1 b1 => ?_)
  obtain ⟨rfl, fr1⟩ := p1
  have hc2 : w1.2.1 ≤ 900 ∧ w1.2.2 ≤ 150000 := ⟨by have := hc.1; have := b1.1; omega, by have := hc.2; have := b1.2; omega⟩
  have SM := SM.mono (fun a e ha pa => ⟨(fr1 a e ha).1 pa, pa⟩)
  show JJ g w1 988 [(3, .int 0), (2, .ref m), (1, .ref x), (0, .ref b)] [.int (an_count (xs 1))]
  refine j_blk 993 [(3, .int 0), (2, .ref m), (1, .ref x), (0, .ref b)] [.int 1, .ref b, .ref m, .int (an_count (xs 1))] C k_law_988_5 rfl ?_
  refine j_sld C hX hbl 1 (by decide) (jin (by decide) (by decide)) d_law_993 ?_
  obtain ⟨Vm, mst, mtp, mim, mso, mln, mit, mfS, hm, m0, m17, m21, m22, m37, m38, m39, m40, m41, hst, mt, him, hso, hfS, hln, hit, hrw, msl, msi, -⟩ := SM
  refine j_callVB (mc := 0) (ms := 0) C Rm Y [.int (xs 1)] [.int (an_count (xs 1))] (c_Mo_count (jGl g) D (jGB g) (jGH g) w1 m Vm (xs 1) mst hm m0 m22 m17 hst (m + mst + 1) (by omega) (by omega)) cl_Law_109 (by rfl) (by rfl) hm d_law_994 rfl rfl (Nat.le_of_ble_eq_true rfl) ⟨Nat.le_of_ble_eq_true rfl, Nat.le_of_ble_eq_true rfl⟩ ⟨by have := hc2.1; show _ ≤ 0 + 600000; omega, by have := hc2.2; show _ ≤ 0 + 7302250; omega⟩ (fun v2 w2 p2 b2 => ?_)
  obtain ⟨rfl, -⟩ := p2
  have hc3 : w2.2.1 ≤ 1000 ∧ w2.2.2 ≤ 200000 := ⟨by have := hc2.1; have := b2.1; omega, by have := hc2.2; have := b2.2; omega⟩
  show JJ g w2 997 [(3, .int 0), (2, .ref m), (1, .ref x), (0, .ref b)] [.int (an_count (xs 1)), .int (an_count (xs 1))]
  refine j_icmp_eq (tgt := 1151) C d_law_997 (by decide) (fun c1 => ?_) (fun c1 => absurd rfl c1)
  exact kk w2 ⟨Nat.le_trans hc3.1 (by decide), Nat.le_trans hc3.2 (by decide)⟩
set_option maxHeartbeats 4000000 in
theorem lawc_22 {g : jG} {D : va_G} {b : Nat} {xs : Nat → Int32} {w : jW} {x m q : Nat} (E : lawE g D b 7 xs) (SX : lawX D w x (fun a => a < q)) (SM : lawM D w m (fun a => q ≤ a)) (hc : w.2.1 ≤ 810 ∧ w.2.2 ≤ 129790)
    (kk : ∀ w9 : jW, w9.2.1 ≤ 1000 ∧ w9.2.2 ≤ 200000 → JJ g w9 1151 [(3, .int 0), (2, .ref m), (1, .ref x), (0, .ref b)] []) : JJ g w 1002 [(3, .int 0), (2, .ref m), (1, .ref x), (0, .ref b)] [] := by
  obtain ⟨C, Rm, hX, hbl, -⟩ := E
  have Y : jY g (jGl g) (jGB g) (jGH g) (jGy g) := ⟨rfl, rfl, rfl, rfl⟩
  obtain ⟨V, tp, pg, sh, rd, F, Vr, hx, h0, h1, h2, h3, h4, h5, h8, h9, ht, hpg, hsh, hrd, ⟨px, ptp, ppg, psh, prd⟩, hs⟩ := SX
  refine j_blk 1007 [(3, .int 0), (2, .ref m), (1, .ref x), (0, .ref b)] [.int 1, .ref b, .ref x] C k_law_1002_5 rfl ?_
  refine j_sld C hX hbl 1 (by decide) (jin (by decide) (by decide)) d_law_1007 ?_
  refine j_blk 1012 [(3, .int 0), (2, .ref m), (1, .ref x), (0, .ref b)] [.int 2, .ref b, .int (xs 1), .ref x] C k_law_1008_4 rfl ?_
  refine j_sld C hX hbl 2 (by decide) (jin (by decide) (by decide)) d_law_1012 ?_
  refine j_blk 1017 [(3, .int 0), (2, .ref m), (1, .ref x), (0, .ref b)] [.int 3, .ref b, .int (xs 2), .int (xs 1), .ref x] C k_law_1013_4 rfl ?_
  refine j_sld C hX hbl 3 (by decide) (jin (by decide) (by decide)) d_law_1017 ?_
  refine j_callVB (mc := 0) (ms := 0) C Rm Y [.int (xs 1), .int (xs 2), .int (xs 3)] [] (c_CS_sheet (jGl g) D (jGB g) (jGH g) w x V (xs 1) (xs 2) (xs 3) sh F hx h8 hsh q px hs) cl_Law_110 (by rfl) (by rfl) hx d_law_1018 rfl rfl (Nat.le_of_ble_eq_true rfl) ⟨Nat.le_of_ble_eq_true rfl, Nat.le_of_ble_eq_true rfl⟩ ⟨by have := hc.1; show _ ≤ 0 + 600000; omega, by have := hc.2; show _ ≤ 0 + 7302250; omega⟩ (fun v1 w1 p1 b1 => ?_)
  obtain ⟨rfl, fr1⟩ := p1
  have hc2 : w1.2.1 ≤ 900 ∧ w1.2.2 ≤ 150000 := ⟨by have := hc.1; have := b1.1; omega, by have := hc.2; have := b1.2; omega⟩
  have SM := SM.mono (fun a e ha pa => ⟨(fr1 a e ha).1 pa, pa⟩)
  show JJ g w1 1021 [(3, .int 0), (2, .ref m), (1, .ref x), (0, .ref b)] [.int (an_sheet (xs 1) (xs 2) (xs 3))]
  refine j_blk 1026 [(3, .int 0), (2, .ref m), (1, .ref x), (0, .ref b)] [.int 1, .ref b, .ref m, .int (an_sheet (xs 1) (xs 2) (xs 3))] C k_law_1021_5 rfl ?_
  refine j_sld C hX hbl 1 (by decide) (jin (by decide) (by decide)) d_law_1026 ?_
  refine j_blk 1031 [(3, .int 0), (2, .ref m), (1, .ref x), (0, .ref b)] [.int 2, .ref b, .int (xs 1), .ref m, .int (an_sheet (xs 1) (xs 2) (xs 3))] C k_law_1027_4 rfl ?_
  refine j_sld C hX hbl 2 (by decide) (jin (by decide) (by decide)) d_law_1031 ?_
  refine j_blk 1036 [(3, .int 0), (2, .ref m), (1, .ref x), (0, .ref b)] [.int 3, .ref b, .int (xs 2), .int (xs 1), .ref m, .int (an_sheet (xs 1) (xs 2) (xs 3))] C k_law_1032_4 rfl ?_
  refine j_sld C hX hbl 3 (by decide) (jin (by decide) (by decide)) d_law_1036 ?_
  obtain ⟨Vm, mst, mtp, mim, mso, mln, mit, mfS, hm, m0, m17, m21, m22, m37, m38, m39, m40, m41, hst, mt, him, hso, hfS, hln, hit, hrw, msl, msi, -⟩ := SM
  refine j_callVB (mc := 0) (ms := 0) C Rm Y [.int (xs 1), .int (xs 2), .int (xs 3)] [.int (an_sheet (xs 1) (xs 2) (xs 3))] (c_Mo_sheet (jGl g) D (jGB g) (jGH g) w1 m mso mln mit Vm mfS (xs 1) (xs 2) (xs 3) hm m39 m40 m41 hso hfS hln hit hrw msl) cl_Law_113 (by rfl) (by rfl) hm d_law_1037 rfl rfl (Nat.le_of_ble_eq_true rfl) ⟨Nat.le_of_ble_eq_true rfl, Nat.le_of_ble_eq_true rfl⟩ ⟨by have := hc2.1; show _ ≤ 0 + 600000; omega, by have := hc2.2; show _ ≤ 0 + 7302250; omega⟩ (fun v2 w2 p2 b2 => ?_)
  obtain rfl := p2
  have hc3 : w2.2.1 ≤ 1000 ∧ w2.2.2 ≤ 200000 := ⟨by have := hc2.1; have := b2.1; omega, by have := hc2.2; have := b2.2; omega⟩
  show JJ g w2 1040 [(3, .int 0), (2, .ref m), (1, .ref x), (0, .ref b)] [.int (an_sheet (xs 1) (xs 2) (xs 3)), .int (an_sheet (xs 1) (xs 2) (xs 3))]
  refine j_icmp_eq (tgt := 1151) C d_law_1040 (by decide) (fun c1 => ?_) (fun c1 => absurd rfl c1)
  exact kk w2 ⟨Nat.le_trans hc3.1 (by decide), Nat.le_trans hc3.2 (by decide)⟩
set_option maxHeartbeats 4000000 in
theorem lawc_23 {g : jG} {D : va_G} {b : Nat} {xs : Nat → Int32} {w : jW} {x m q : Nat} (E : lawE g D b 7 xs) (SX : lawX D w x (fun a => a < q)) (SM : lawM D w m (fun a => q ≤ a)) (hc : w.2.1 ≤ 810 ∧ w.2.2 ≤ 129790)
    (kk : ∀ w9 : jW, w9.2.1 ≤ 1000 ∧ w9.2.2 ≤ 200000 → JJ g w9 1151 [(3, .int 0), (2, .ref m), (1, .ref x), (0, .ref b)] []) : JJ g w 1045 [(3, .int 0), (2, .ref m), (1, .ref x), (0, .ref b)] [] := by
  obtain ⟨C, Rm, hX, hbl, -⟩ := E
  have Y : jY g (jGl g) (jGB g) (jGH g) (jGy g) := ⟨rfl, rfl, rfl, rfl⟩
  obtain ⟨V, tp, pg, sh, rd, F, Vr, hx, h0, h1, h2, h3, h4, h5, h8, h9, ht, hpg, hsh, hrd, ⟨px, ptp, ppg, psh, prd⟩, hs⟩ := SX
  refine j_blk 1050 [(3, .int 0), (2, .ref m), (1, .ref x), (0, .ref b)] [.int 1, .ref b, .ref x] C k_law_1045_5 rfl ?_
  refine j_sld C hX hbl 1 (by decide) (jin (by decide) (by decide)) d_law_1050 ?_
  refine j_blk 1055 [(3, .int 0), (2, .ref m), (1, .ref x), (0, .ref b)] [.int 2, .ref b, .int (xs 1), .ref x] C k_law_1051_4 rfl ?_
  refine j_sld C hX hbl 2 (by decide) (jin (by decide) (by decide)) d_law_1055 ?_
  refine j_blk 1060 [(3, .int 0), (2, .ref m), (1, .ref x), (0, .ref b)] [.int 3, .ref b, .int (xs 2), .int (xs 1), .ref x] C k_law_1056_4 rfl ?_
  refine j_sld C hX hbl 3 (by decide) (jin (by decide) (by decide)) d_law_1060 ?_
  refine j_callVB (mc := 0) (ms := 0) C Rm Y [.int (xs 1), .int (xs 2), .int (xs 3)] [] (c_CS_cell (jGl g) D (jGB g) (jGH g) w x V (xs 1) (xs 2) (xs 3) sh F hx h8 hsh q px hs) cl_Law_114 (by rfl) (by rfl) hx d_law_1061 rfl rfl (Nat.le_of_ble_eq_true rfl) ⟨Nat.le_of_ble_eq_true rfl, Nat.le_of_ble_eq_true rfl⟩ ⟨by have := hc.1; show _ ≤ 0 + 600000; omega, by have := hc.2; show _ ≤ 0 + 7302250; omega⟩ (fun v1 w1 p1 b1 => ?_)
  obtain ⟨rfl, fr1⟩ := p1
  have hc2 : w1.2.1 ≤ 900 ∧ w1.2.2 ≤ 150000 := ⟨by have := hc.1; have := b1.1; omega, by have := hc.2; have := b1.2; omega⟩
  have SM := SM.mono (fun a e ha pa => ⟨(fr1 a e ha).1 pa, pa⟩)
  show JJ g w1 1064 [(3, .int 0), (2, .ref m), (1, .ref x), (0, .ref b)] [.int (an_cell (xs 1))]
  refine j_blk 1069 [(3, .int 0), (2, .ref m), (1, .ref x), (0, .ref b)] [.int 1, .ref b, .ref m, .int (an_cell (xs 1))] C k_law_1064_5 rfl ?_
  refine j_sld C hX hbl 1 (by decide) (jin (by decide) (by decide)) d_law_1069 ?_
  refine j_blk 1074 [(3, .int 0), (2, .ref m), (1, .ref x), (0, .ref b)] [.int 2, .ref b, .int (xs 1), .ref m, .int (an_cell (xs 1))] C k_law_1070_4 rfl ?_
  refine j_sld C hX hbl 2 (by decide) (jin (by decide) (by decide)) d_law_1074 ?_
  refine j_blk 1079 [(3, .int 0), (2, .ref m), (1, .ref x), (0, .ref b)] [.int 3, .ref b, .int (xs 2), .int (xs 1), .ref m, .int (an_cell (xs 1))] C k_law_1075_4 rfl ?_
  refine j_sld C hX hbl 3 (by decide) (jin (by decide) (by decide)) d_law_1079 ?_
  obtain ⟨Vm, mst, mtp, mim, mso, mln, mit, mfS, hm, m0, m17, m21, m22, m37, m38, m39, m40, m41, hst, mt, him, hso, hfS, hln, hit, hrw, msl, msi, -⟩ := SM
  refine j_callVB (mc := 0) (ms := 0) C Rm Y [.int (xs 1), .int (xs 2), .int (xs 3)] [.int (an_cell (xs 1))] (c_Mo_cell (jGl g) D (jGB g) (jGH g) w1 m mso mln mit Vm mfS (xs 1) (xs 2) (xs 3) hm m39 m40 m41 hso hfS hln hit hrw msl) cl_Law_117 (by rfl) (by rfl) hm d_law_1080 rfl rfl (Nat.le_of_ble_eq_true rfl) ⟨Nat.le_of_ble_eq_true rfl, Nat.le_of_ble_eq_true rfl⟩ ⟨by have := hc2.1; show _ ≤ 0 + 600000; omega, by have := hc2.2; show _ ≤ 0 + 7302250; omega⟩ (fun v2 w2 p2 b2 => ?_)
  obtain rfl := p2
  have hc3 : w2.2.1 ≤ 1000 ∧ w2.2.2 ≤ 200000 := ⟨by have := hc2.1; have := b2.1; omega, by have := hc2.2; have := b2.2; omega⟩
  show JJ g w2 1083 [(3, .int 0), (2, .ref m), (1, .ref x), (0, .ref b)] [.int (an_cell (xs 1)), .int (an_cell (xs 1))]
  refine j_icmp_eq (tgt := 1151) C d_law_1083 (by decide) (fun c1 => ?_) (fun c1 => absurd rfl c1)
  exact kk w2 ⟨Nat.le_trans hc3.1 (by decide), Nat.le_trans hc3.2 (by decide)⟩
set_option maxHeartbeats 4000000 in
theorem lawc_24 {g : jG} {D : va_G} {b : Nat} {xs : Nat → Int32} {w : jW} {x m q : Nat} (E : lawE g D b 7 xs) (SX : lawX D w x (fun a => a < q)) (SM : lawM D w m (fun a => q ≤ a)) (hc : w.2.1 ≤ 810 ∧ w.2.2 ≤ 129790)
    (kk : ∀ w9 : jW, w9.2.1 ≤ 1000 ∧ w9.2.2 ≤ 200000 → JJ g w9 1151 [(3, .int 0), (2, .ref m), (1, .ref x), (0, .ref b)] []) : JJ g w 1088 [(3, .int 0), (2, .ref m), (1, .ref x), (0, .ref b)] [] := by
  obtain ⟨C, Rm, hX, hbl, -⟩ := E
  have Y : jY g (jGl g) (jGB g) (jGH g) (jGy g) := ⟨rfl, rfl, rfl, rfl⟩
  obtain ⟨V, tp, pg, sh, rd, F, Vr, hx, h0, h1, h2, h3, h4, h5, h8, h9, ht, hpg, hsh, hrd, ⟨px, ptp, ppg, psh, prd⟩, hs⟩ := SX
  refine j_blk 1093 [(3, .int 0), (2, .ref m), (1, .ref x), (0, .ref b)] [.int 1, .ref b, .ref x] C k_law_1088_5 rfl ?_
  refine j_sld C hX hbl 1 (by decide) (jin (by decide) (by decide)) d_law_1093 ?_
  refine j_blk 1098 [(3, .int 0), (2, .ref m), (1, .ref x), (0, .ref b)] [.int 2, .ref b, .int (xs 1), .ref x] C k_law_1094_4 rfl ?_
  refine j_sld C hX hbl 2 (by decide) (jin (by decide) (by decide)) d_law_1098 ?_
  refine j_blk 1103 [(3, .int 0), (2, .ref m), (1, .ref x), (0, .ref b)] [.int 3, .ref b, .int (xs 2), .int (xs 1), .ref x] C k_law_1099_4 rfl ?_
  refine j_sld C hX hbl 3 (by decide) (jin (by decide) (by decide)) d_law_1103 ?_
  refine j_blk 1108 [(3, .int 0), (2, .ref m), (1, .ref x), (0, .ref b)] [.int 4, .ref b, .int (xs 3), .int (xs 2), .int (xs 1), .ref x] C k_law_1104_4 rfl ?_
  refine j_sld C hX hbl 4 (by decide) (jin (by decide) (by decide)) d_law_1108 ?_
  refine j_blk 1113 [(3, .int 0), (2, .ref m), (1, .ref x), (0, .ref b)] [.int 5, .ref b, .int (xs 4), .int (xs 3), .int (xs 2), .int (xs 1), .ref x] C k_law_1109_4 rfl ?_
  refine j_sld C hX hbl 5 (by decide) (jin (by decide) (by decide)) d_law_1113 ?_
  refine j_callVB (mc := 0) (ms := 0) C Rm Y [.int (xs 1), .int (xs 2), .int (xs 3), .int (xs 4), .int (xs 5)] [] (c_CS_copy (jGl g) D (jGB g) (jGH g) w x V (xs 1) (xs 2) (xs 3) (xs 4) (xs 5) sh F hx h8 hsh q px hs) cl_Law_118 (by rfl) (by rfl) hx d_law_1114 rfl rfl (Nat.le_of_ble_eq_true rfl) ⟨Nat.le_of_ble_eq_true rfl, Nat.le_of_ble_eq_true rfl⟩ ⟨by have := hc.1; show _ ≤ 0 + 600000; omega, by have := hc.2; show _ ≤ 0 + 7302250; omega⟩ (fun v1 w1 p1 b1 => ?_)
  obtain ⟨rfl, fr1⟩ := p1
  have hc2 : w1.2.1 ≤ 900 ∧ w1.2.2 ≤ 150000 := ⟨by have := hc.1; have := b1.1; omega, by have := hc.2; have := b1.2; omega⟩
  have SM := SM.mono (fun a e ha pa => ⟨(fr1 a e ha).1 pa, pa⟩)
  show JJ g w1 1117 [(3, .int 0), (2, .ref m), (1, .ref x), (0, .ref b)] [.int (an_copy (xs 1) (xs 3))]
  refine j_blk 1122 [(3, .int 0), (2, .ref m), (1, .ref x), (0, .ref b)] [.int 1, .ref b, .ref m, .int (an_copy (xs 1) (xs 3))] C k_law_1117_5 rfl ?_
  refine j_sld C hX hbl 1 (by decide) (jin (by decide) (by decide)) d_law_1122 ?_
  refine j_blk 1127 [(3, .int 0), (2, .ref m), (1, .ref x), (0, .ref b)] [.int 2, .ref b, .int (xs 1), .ref m, .int (an_copy (xs 1) (xs 3))] C k_law_1123_4 rfl ?_
  refine j_sld C hX hbl 2 (by decide) (jin (by decide) (by decide)) d_law_1127 ?_
  refine j_blk 1132 [(3, .int 0), (2, .ref m), (1, .ref x), (0, .ref b)] [.int 3, .ref b, .int (xs 2), .int (xs 1), .ref m, .int (an_copy (xs 1) (xs 3))] C k_law_1128_4 rfl ?_
  refine j_sld C hX hbl 3 (by decide) (jin (by decide) (by decide)) d_law_1132 ?_
  refine j_blk 1137 [(3, .int 0), (2, .ref m), (1, .ref x), (0, .ref b)] [.int 4, .ref b, .int (xs 3), .int (xs 2), .int (xs 1), .ref m, .int (an_copy (xs 1) (xs 3))] C k_law_1133_4 rfl ?_
  refine j_sld C hX hbl 4 (by decide) (jin (by decide) (by decide)) d_law_1137 ?_
  refine j_blk 1142 [(3, .int 0), (2, .ref m), (1, .ref x), (0, .ref b)] [.int 5, .ref b, .int (xs 4), .int (xs 3), .int (xs 2), .int (xs 1), .ref m, .int (an_copy (xs 1) (xs 3))] C k_law_1138_4 rfl ?_
  refine j_sld C hX hbl 5 (by decide) (jin (by decide) (by decide)) d_law_1142 ?_
  obtain ⟨Vm, mst, mtp, mim, mso, mln, mit, mfS, hm, m0, m17, m21, m22, m37, m38, m39, m40, m41, hst, mt, him, hso, hfS, hln, hit, hrw, msl, msi, -⟩ := SM
  refine j_callVB (mc := 0) (ms := 0) C Rm Y [.int (xs 1), .int (xs 2), .int (xs 3), .int (xs 4), .int (xs 5)] [.int (an_copy (xs 1) (xs 3))] (c_Mo_copy (jGl g) D (jGB g) (jGH g) w1 m mso mln mit Vm mfS (xs 1) (xs 2) (xs 3) (xs 4) (xs 5) hm m39 m40 m41 hso hfS hln hit hrw msl) cl_Law_122 (by rfl) (by rfl) hm d_law_1143 rfl rfl (Nat.le_of_ble_eq_true rfl) ⟨Nat.le_of_ble_eq_true rfl, Nat.le_of_ble_eq_true rfl⟩ ⟨by have := hc2.1; show _ ≤ 0 + 600000; omega, by have := hc2.2; show _ ≤ 0 + 7302250; omega⟩ (fun v2 w2 p2 b2 => ?_)
  obtain rfl := p2
  have hc3 : w2.2.1 ≤ 1000 ∧ w2.2.2 ≤ 200000 := ⟨by have := hc2.1; have := b2.1; omega, by have := hc2.2; have := b2.2; omega⟩
  show JJ g w2 1146 [(3, .int 0), (2, .ref m), (1, .ref x), (0, .ref b)] [.int (an_copy (xs 1) (xs 3)), .int (an_copy (xs 1) (xs 3))]
  refine j_icmp_eq (tgt := 1151) C d_law_1146 (by decide) (fun c1 => ?_) (fun c1 => absurd rfl c1)
  exact kk w2 ⟨Nat.le_trans hc3.1 (by decide), Nat.le_trans hc3.2 (by decide)⟩
