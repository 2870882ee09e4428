/-! THE J LAYER: contracts (own work) -/
def jPc (D : va_G) (B : Nat) (H0 : Heap) (av : List Value) (w : jW) : Array Value → State → Prop := va_Pc av (fun U => jH D B H0 w U.heap ∧ jK D U ∧ jS D B H0 U)
def jQ (D : va_G) (B : Nat) (H0 : Heap) (post : Option Value → jW → Prop) : Array Value → State → Outcome → State → Prop := fun _ _ oc t => ∃ (v : Option Value) (w' : jW), oc = .returned v ∧ post v w' ∧ jH D B H0 w' t.heap
/-- a contract -/
abbrev jMet (l : Launch) (D : va_G) (B : Nat) (H0 : Heap) (y : MethodName) (cc : ByteArray) (maxL : Nat) (ret : Option FieldType) (fr lo mc ms : Nat) (av : List Value) (w : jW) (post : Option Value → jW → Prop) : Prop :=
  Met l y (Cond.code y cc maxL ret :: jwd) ({ frames := fr, cells := mc, slots := ms, locals := lo } : Room) (jPc D B H0 av w) (jQ D B H0 post) mc ms (fun q => B ≤ q)
def jY (g : jG) (l : Launch) (B : Nat) (H0 : Heap) (y : MethodName) : Prop := jGl g = l ∧ jGB g = B ∧ jGH g = H0 ∧ jGy g = y
def jEnd (g : jG) (post : Option Value → jW → Prop) (mc ms : Nat) (ret : Option FieldType) : Prop := (jGt g).sig.returnType = ret ∧ jGQ g = MQ (jGb g) (jQ (jGD g) (jGB g) (jGH g) post) (jGa g) (jGs g) mc ms (fun q => jGB g ≤ q)
theorem jK.same {D : va_G} {s U : State} (hv : s.vm = U.vm) (h : jK D s) : jK D U := by
  have hvm : s.vm.Alike U.vm := by rw [hv]; exact Vm.Alike.refl _
  obtain ⟨h1, h2, h3, h4⟩ := h
  refine ⟨fun c q hq => u_Kn_moved hvm (h1 c q hq), fun k ty hk => (h2 k ty hk).moved hvm, fun C hC => (h3 C hC).moved hvm, fun w hw => ?_⟩
  have h5 := (List.mem_filter.mp hw).2
  have h6 := h4 w hw
  cases w with
  | fieldLinkNest a i b n d h2 => exact va_Nw.same rfl hv h6
  | methodLinkNest a i x h2 => exact va_Nw.same rfl hv h6
  | _ => simp [jnw] at h5
theorem jPc_blind (D : va_G) (B : Nat) (H0 : Heap) (av : List Value) (w : jW) : FrameBlind (jPc D B H0 av w) := fun a U g mk h => ⟨h.1, h.2.1, jK.same (s := U) (U := U.calling g mk a) rfl h.2.2.1, jS.same (s := U) (U := U.calling g mk a) rfl h.2.2.2⟩
/-- the books are exact: a state's counts are those of its world -/
theorem jsum_split {H : Heap} {B k : Nat} : jsum H B = (((H.toList.drop B).take k).map (fun c : Cell => c.slots.size)).sum + jsum H (B + k) := by
  unfold jsum
  conv => lhs; rw [← List.take_append_drop k (H.toList.drop B)]
  rw [List.map_append, List.sum_append, List.drop_drop]
theorem jtight {p : Program} {l : Launch} {e : Env} {R : Room} {s : State} {m : MethodId} {args : Array Value} {below : List Frame} {meth : Method} {c : Code} {T : State} {locs : List Loc} {cells slots : Nat} {D : va_G} {B k0 n0 : Nat} {H0 : Heap} {M0 : jM} {w : jW} (X : Stand p l e R s m args below meth c T locs cells slots) (h0 : jH D B H0 (M0, k0, n0) s.heap) (h : jH D B H0 w T.heap) : k0 ≤ w.2.1 ∧ n0 ≤ w.2.2 ∧ Stand p l e R s m args below meth c T locs (w.2.1 - k0) (w.2.2 - n0) := by
  obtain ⟨e1, e2, e3, e4, e5, e6⟩ := X.same
  have e2 : s.heap.size ≤ T.heap.size := e2
  have hs0 : s.heap.size = B + k0 := h0.1
  have hs : T.heap.size = B + w.2.1 := h.1
  have hj0 : jsum s.heap B = n0 := h0.2.1
  have hj : jsum T.heap B = w.2.2 := h.2.1
  have hk : k0 ≤ w.2.1 := by omega
  have hold : ((T.heap.toList.drop B).take k0).map (fun c : Cell => c.slots.size) = (s.heap.toList.drop B).map (fun c : Cell => c.slots.size) := by
    apply List.ext_getElem?
    intro i
    rw [List.getElem?_map, List.getElem?_map, List.getElem?_take, List.getElem?_drop, List.getElem?_drop, Array.getElem?_toList, Array.getElem?_toList]
    by_cases hi : i < k0
    · rw [if_pos hi]
      have hlt : B + i < s.heap.size := by omega
      obtain ⟨c', q1, -, q3, -⟩ := e6 (B + i) s.heap[B + i] (Array.getElem?_eq_getElem hlt)
      have q1 : T.heap[B + i]? = some c' := q1
      rw [q1, Array.getElem?_eq_getElem hlt]
      simp [q3]
    · rw [if_neg hi]
      have : s.heap[B + i]? = none := Array.getElem?_eq_none (by omega)
      rw [this]
  have hsp := jsum_split (H := T.heap) (B := B) (k := k0)
  rw [hold, hj, ← hs0] at hsp
  have hj0' : ((s.heap.toList.drop B).map (fun c : Cell => c.slots.size)).sum = n0 := hj0
  rw [hj0'] at hsp
  have hnew : (((T.setVm s.vm).heap.toList.drop s.heap.size).map (·.slots.size)).sum = jsum T.heap s.heap.size := rfl
  refine ⟨hk, by omega, { X with same := ⟨e1, e2, ?_, e4, ?_, e6⟩ }⟩
  · show T.heap.size ≤ s.heap.size + (w.2.1 - k0)
    omega
  · rw [hnew]; omega
section JC
variable {g : jG} {w : jW} {cc : ByteArray} {nL pc : Nat} {own : String} {D : va_G} {L : List (Nat × Value)} {st : List Value} {k0 n0 : Nat} {rm : Room} {l : Launch} {B : Nat} {H0 : Heap} {y0 : MethodName} {post : Option Value → jW → Prop} {mc ms : Nat}
theorem j_iret (C : jX g cc nL own D) (Rm : jRm g k0 n0 rm) (E : jEnd g post mc ms (some .int)) {x : Int32} (hd : decode cc pc = .ok (.ireturn, 1)) (hp : post (some (.int x)) w) (hc : w.2.1 ≤ k0 + mc) (hs : w.2.2 ≤ n0 + ms) : JJ g w pc L [.int x] := by
  obtain ⟨⟨hx, hb, hml, ho, hts, hK, hnm, hlk, -⟩, rfl, rfl, rfl, rfl⟩ := C
  obtain ⟨rfl, rfl, rfl⟩ := Rm
  intro H locs ls h1 h2 h3 h4 h5
  rw [E.2]
  refine W.widen (k := mc) (n := ms) (by omega) (by omega) ?_
  exact W.iret hx hb E.1 (fun t ht hW => ⟨_, w, rfl, hp, by rw [ht]; exact h1⟩) h4 hd hlk
theorem j_zret (C : jX g cc nL own D) (Rm : jRm g k0 n0 rm) {ty : FieldType} (E : jEnd g post mc ms (some ty)) {x : Int32} (hn : narrow ty (.int x) = .int x) (hd : decode cc pc = .ok (.ireturn, 1)) (hp : post (some (.int x)) w) (hc : w.2.1 ≤ k0 + mc) (hs : w.2.2 ≤ n0 + ms) : JJ g w pc L [.int x] := by
  obtain ⟨⟨hx, hb, hml, ho, hts, hK, hnm, hlk, -⟩, rfl, rfl, rfl, rfl⟩ := C
  obtain ⟨rfl, rfl, rfl⟩ := Rm
  intro H locs ls h1 h2 h3 h4 h5
  rw [E.2]
  refine W.widen (k := mc) (n := ms) (by omega) (by omega) ?_
  exact W.zret hx hb E.1 hn (fun t ht hW => ⟨_, w, rfl, hp, by rw [ht]; exact h1⟩) h4 hd hlk
theorem j_lret (C : jX g cc nL own D) (Rm : jRm g k0 n0 rm) (E : jEnd g post mc ms (some .long)) {x : Int64} (hd : decode cc pc = .ok (.lreturn, 1)) (hp : post (some (.long x)) w) (hc : w.2.1 ≤ k0 + mc) (hs : w.2.2 ≤ n0 + ms) : JJ g w pc L [.long x] := by
  obtain ⟨⟨hx, hb, hml, ho, hts, hK, hnm, hlk, -⟩, rfl, rfl, rfl, rfl⟩ := C
  obtain ⟨rfl, rfl, rfl⟩ := Rm
  intro H locs ls h1 h2 h3 h4 h5
  rw [E.2]
  refine W.widen (k := mc) (n := ms) (by omega) (by omega) ?_
  exact W.lret hx hb E.1 (fun t ht hW => ⟨_, w, rfl, hp, by rw [ht]; exact h1⟩) h4 hd hlk
theorem j_vret (C : jX g cc nL own D) (Rm : jRm g k0 n0 rm) (E : jEnd g post mc ms none) (hd : decode cc pc = .ok (.return_, 1)) (hp : post none w) (hc : w.2.1 ≤ k0 + mc) (hs : w.2.2 ≤ n0 + ms) : JJ g w pc L [] := by
  obtain ⟨⟨hx, hb, hml, ho, hts, hK, hnm, hlk, -⟩, rfl, rfl, rfl, rfl⟩ := C
  obtain ⟨rfl, rfl, rfl⟩ := Rm
  intro H locs ls h1 h2 h3 h4 h5
  rw [E.2]
  refine W.widen (k := mc) (n := ms) (by omega) (by omega) ?_
  exact W.vret hx hb E.1 (fun t ht hW => ⟨_, w, rfl, hp, by rw [ht]; exact h1⟩) h4 hd hlk
theorem j_aret (C : jX g cc nL own D) (Rm : jRm g k0 n0 rm) {Cn : String} (E : jEnd g post mc ms (some (.object Cn))) {v : Value} (hv : v = .null ∨ ∃ a, v = .ref a) (hd : decode cc pc = .ok (.areturn, 1)) (hp : post (some v) w) (hc : w.2.1 ≤ k0 + mc) (hs : w.2.2 ≤ n0 + ms) : JJ g w pc L [v] := by
  obtain ⟨⟨hx, hb, hml, ho, hts, hK, hnm, hlk, -⟩, rfl, rfl, rfl, rfl⟩ := C
  obtain ⟨rfl, rfl, rfl⟩ := Rm
  intro H locs ls h1 h2 h3 h4 h5
  rw [E.2]
  refine W.widen (k := mc) (n := ms) (by omega) (by omega) ?_
  exact W.aret hx hb E.1 (Or.inl ⟨_, rfl⟩) hv (fun t ht hW => ⟨_, w, rfl, hp, by rw [ht]; exact h1⟩) h4 hd hlk
/-- THE START OF A METHOD -/
theorem j_met {y : MethodName} {maxL : Nat} {ret : Option FieldType} {av : List Value} {fr lo : Nat} (hy : plainName y.cls = true) (hav : (lg_sl av).length ≤ maxL)
    (body : ∀ g : jG, jX g cc maxL y.cls D → jRm g w.2.1 w.2.2 { frames := fr, cells := mc, slots := ms, locals := lo } → jY g l B H0 y → jEnd g post mc ms ret → JJ g w 0 (lv_args 0 av) []) : jMet l D B H0 y cc maxL ret fr lo mc ms av w post := by
  refine Met.ofW (cc := cc) (maxL := maxL) (ret := ret) hy rfl ?_
  intro p e s m args below meth c s₁ Bd hml hv
  obtain ⟨rfl, hH, hK, hSt⟩ := hv
  have hts := atoms_spec (ws := Cond.code y cc maxL ret :: jwd) Bd.pre
  have hl := lv_entry av (n := maxL) hav
  rw [lg_entry_eq]
  generalize (lg_sl av ++ List.replicate (maxL - (lg_sl av).length) Slot.unset).toArray = ls at hl ⊢
  have hfind : s.vm.findClass y.cls = some m.cls := findClass_of_methodNamed Bd.named
  have hnam : meth.name = y.name := (name_of_methodNamed Bd.named Bd.method).1
  have key := body (p, l, e, ({ frames := fr, cells := mc, slots := ms, locals := lo } : Room), s, m, av.toArray, below, meth, c, D, B, H0, w.2.1, w.2.2, maxL, MQ below (jQ D B H0 post) av.toArray s mc ms (fun q => B ≤ q), cc, y)
    ⟨⟨Bd.exec, Bd.bytes, hml, hfind, fun w9 h9 => hts w9 (List.mem_cons_of_mem _ h9), hK, hnam, Bd.notSynchronized, hSt, w.1, hH⟩, rfl, rfl, rfl, rfl⟩ ⟨rfl, rfl, rfl⟩ ⟨rfl, rfl, rfl, rfl⟩ ⟨Bd.returns, rfl⟩
  have k2 := key s.heap [] ls hH (Nat.le_refl _) (Nat.le_refl _) (fun q h => by cases h) hl
  have a1 : w.2.1 - w.2.1 = 0 := Nat.sub_self _
  have a2 : w.2.2 - w.2.2 = 0 := Nat.sub_self _
  simp only [jGp, jGl, jGe, jGR, jGs, jGm, jGa, jGb, jGt, jGc, jGk, jGn, jGQ, a1, a2] at k2
  exact k2
theorem jgood {y : MethodName} {b : ByteArray} {n : Nat} {r : Option FieldType} (h : Cond.code y b n r ∈ jwd) : GoodIn jwd (Cond.code y b n r :: jwd) := fun w hw => by
  rcases List.mem_cons.mp hw with rfl | h1
  · exact ⟨h, good_of_word (List.mem_filter.mp h).2⟩
  · exact ⟨h1, good_of_word (List.mem_filter.mp h1).2⟩
/-- behind a call -/
theorem j_after (C : jC g) {H : Heap} {locs : List Loc} {ls : Array Slot} (h4 : ∀ q ∈ locs, jGB g ≤ q.base) (h5 : lv_has ls (jGL g) L) {rest st0 : List Value} {a : Array Value} {k n : Nat}
    (hr : va_Run (jGp g) (jGl g) (jGe g) (jGR g) (jGs g) (jGm g) (jGa g) (jGb g) (jGt g) (jGc g) H locs k n mc ms (F0 (jGm g) pc ls st0) rest (jQ (jGD g) (jGB g) (jGH g) post a) (fun q => jGB g ≤ q))
    (kk : ∀ (v : Option Value) (w' : jW), post v w' → JJ g w' (pc + 3) L (v.toList ++ rest)) : W (jGp g) (jGl g) (jGe g) (jGR g) (jGs g) (jGm g) (jGa g) (jGb g) (jGt g) (jGc g) H locs k n (jGQ g) (F0 (jGm g) pc ls st0) := by
  obtain ⟨-, -, -, -, -, -, -, -, -, M0, hM0⟩ := C
  intro T hT X
  obtain ⟨v, st₀, t, T', L', h0, X', hL, e1, e2, ⟨v2, w', hv, hp, hH'⟩, hst⟩ := hr T hT X
  cases hv
  rw [← e1] at hH'
  obtain ⟨g1, g2, X2⟩ := jtight X' hM0 hH'
  obtain ⟨t2, a1, b1⟩ := kk v w' hp T'.heap (locs ++ L') ls hH' g1 g2 (fun q hq => by
    rcases List.mem_append.mp hq with h | h
    · exact h4 q h
    · exact hL q h) h5 T' rfl X2
  exact ⟨t2, hst t2 a1, b1⟩
def jcB (y : MethodName) (bytes : ByteArray) (maxL : Nat) (ret : Option FieldType) (n : Nat) : Prop := Cond.initialized y.cls ∈ jwd ∧ Cond.code y bytes maxL ret ∈ jwd ∧ (y.cls ≠ "java/lang/invoke/MethodHandle" ∧ y.cls ≠ "java/lang/invoke/VarHandle") ∧ (parseMethodDescriptor y.desc).map (fun d => d.parameters.length) = some n
def jcS (own : String) (idx : Nat) (y : MethodName) (bytes : ByteArray) (maxL : Nat) (ret : Option FieldType) (n : Nat) : Prop := jcB y bytes maxL ret n ∧ Cond.static y ∈ jwd ∧ Cond.methodLink own idx y ∈ jwd
def jcSn (own : String) (idx : Nat) (y : MethodName) (bytes : ByteArray) (maxL : Nat) (ret : Option FieldType) (n : Nat) : Prop := jcB y bytes maxL ret n ∧ Cond.static y ∈ jwd ∧ ∃ host, Cond.methodLinkNest own idx y host ∈ jnest
def jcV (own : String) (idx : Nat) (y : MethodName) (bytes : ByteArray) (maxL : Nat) (ret : Option FieldType) (n : Nat) : Prop := jcB y bytes maxL ret n ∧ Cond.instanceMethod y ∈ jwd ∧ Cond.selects y.cls y y ∈ jwd ∧ Cond.methodLink own idx y ∈ jwd
def jcI (own : String) (idx : Nat) (y : MethodName) (bytes : ByteArray) (maxL n : Nat) : Prop := jcB y bytes maxL none n ∧ Cond.instanceMethod y ∈ jwd ∧ y.name = "<init>" ∧ Cond.methodLink own idx y ∈ jwd
def jcIn (own : String) (idx : Nat) (y : MethodName) (bytes : ByteArray) (maxL n : Nat) : Prop := jcB y bytes maxL none n ∧ Cond.instanceMethod y ∈ jwd ∧ y.name = "<init>" ∧ ∃ host, Cond.methodLinkNest own idx y host ∈ jnest
theorem jcB.call {y : MethodName} {bytes : ByteArray} {maxL n idx fr lo : Nat} {ret : Option FieldType} {s : State} {args : Array Value} {R : Room} (h : jcB y bytes maxL ret n) (hts : ∀ w ∈ jwd, w.before args s = true) (hl : (Cond.methodLink own idx y).before args s = true) (hR : fr + 1 ≤ R.frames ∧ 8 + (maxL + 11) + lo ≤ R.locals) : CallB R s args own idx y bytes maxL ret (Cond.code y bytes maxL ret :: jwd) ({ frames := fr, cells := mc, slots := ms, locals := lo } : Room) mc ms n :=
  callB_of n hts (jgood h.2.1) rfl rfl rfl (hts _ h.1) hl ⟨h.2.2.1.1, h.2.2.1.2, h.2.2.2⟩ hR
theorem j_callS (C : jX g cc nL own D) (Rm : jRm g k0 n0 rm) (Y : jY g l B H0 y0) {idx n maxL fr lo : Nat} {y : MethodName} {bytes : ByteArray} {ret : Option FieldType} {As : List Value} (rest : List Value) (hM : jMet l D B H0 y bytes maxL ret fr lo mc ms As w post) (hc : jcS own idx y bytes maxL ret n) (hd : decode cc pc = .ok (.invokestatic idx, 3)) (hn : As.length = n) (hst : st = As.reverse ++ rest) (h8 : (rest.map fun v => v.category).sum ≤ 8) (hR : fr + 1 ≤ rm.frames ∧ 8 + (maxL + 11) + lo ≤ rm.locals) (hroom : w.2.1 + mc ≤ k0 + rm.cells ∧ w.2.2 + ms ≤ n0 + rm.slots)
    (kk : ∀ (v : Option Value) (w' : jW), post v w' → JJ g w' (pc + 3) L (v.toList ++ rest)) : JJ g w pc L st := by
  obtain ⟨hC, rfl, rfl, rfl, rfl⟩ := C
  obtain ⟨rfl, rfl, rfl⟩ := Rm
  obtain ⟨rfl, rfl, rfl, rfl⟩ := Y
  obtain ⟨hx, hb, hml, ho, hts, hK, -, -, hSt, -⟩ := id hC
  subst hst
  intro H locs ls h1 h2 h3 h4 h5
  exact j_after hC h4 h5 (va_runS (As := As) (rest := rest) ⟨hx, hb, hml, ho, hts⟩ hM ⟨hc.1.call hts (hts _ hc.2.2) hR, hts _ hc.2.1⟩ ⟨jPc_blind _ _ _ _ _, fun U hU hW => ⟨rfl, by rw [hU]; exact h1, hK.moved hW, hSt.moved hW⟩⟩ rfl hn h5.1 rfl (lv_room h8) hd ⟨by omega, by omega⟩) kk
theorem j_callV (C : jX g cc nL own D) (Rm : jRm g k0 n0 rm) (Y : jY g l B H0 y0) {idx n maxL fr lo a ci : Nat} {V : Nat → Value} {r : vw_C} {y : MethodName} {bytes : ByteArray} {ret : Option FieldType} (As rest : List Value) (hM : jMet l D B H0 y bytes maxL ret fr lo mc ms (.ref a :: As) w post) (hc : jcV own idx y bytes maxL ret n) (hci : vwCl[ci]? = some r) (hrc : r.1 = y.cls) (ha : w.1 a = some (.inr (ci, V))) (hd : decode cc pc = .ok (.invokevirtual idx, 3)) (hn : As.length = n) (hst : st = As.reverse ++ .ref a :: rest) (h8 : (rest.map fun v => v.category).sum ≤ 8) (hR : fr + 1 ≤ rm.frames ∧ 8 + (maxL + 11) + lo ≤ rm.locals) (hroom : w.2.1 + mc ≤ k0 + rm.cells ∧ w.2.2 + ms ≤ n0 + rm.slots)
    (kk : ∀ (v : Option Value) (w' : jW), post v w' → JJ g w' (pc + 3) L (v.toList ++ rest)) : JJ g w pc L st := by
  obtain ⟨hC, rfl, rfl, rfl, rfl⟩ := C
  obtain ⟨rfl, rfl, rfl⟩ := Rm
  obtain ⟨rfl, rfl, rfl, rfl⟩ := Y
  obtain ⟨hx, hb, hml, ho, hts, hK, -, -, hSt, -⟩ := id hC
  subst hst
  intro H locs ls h1 h2 h3 h4 h5
  obtain ⟨r', g0, cell, g1, g2, g3, -⟩ := h1.at ha
  have hrr : r' = r := Option.some.inj (g0.symm.trans hci)
  subst hrr
  have hrec : ∃ cell : Cell, H[a]? = some cell ∧ cell.vm.isStatics = false ∧ (jGs g).vm.findClass y.cls = some cell.cls := ⟨cell, g1, by rw [g3]; rfl, by rw [g2, ← hrc]; exact (hK.1 ci _ hci).2.1⟩
  exact j_after hC h4 h5 (va_runV (C := y.cls) (As := As) (rest := rest) ⟨hx, hb, hml, ho, hts⟩ hM ⟨hc.1.call hts (hts _ hc.2.2.2) hR, hts _ hc.2.1, hts _ hc.2.2.1⟩ ⟨jPc_blind _ _ _ _ _, hrec, fun U hU hW => ⟨rfl, by rw [hU]; exact h1, hK.moved hW, hSt.moved hW⟩⟩ rfl hn h5.1 rfl (lv_room h8) hd ⟨by omega, by omega⟩) kk
theorem j_callI (C : jX g cc nL own D) (Rm : jRm g k0 n0 rm) (Y : jY g l B H0 y0) {idx n maxL fr lo a : Nat} {y : MethodName} {bytes : ByteArray} (As rest : List Value) (hM : jMet l D B H0 y bytes maxL none fr lo mc ms (.ref a :: As) w post) (hc : jcI own idx y bytes maxL n) (hd : decode cc pc = .ok (.invokespecial idx, 3)) (hn : As.length = n) (hst : st = As.reverse ++ .ref a :: rest) (h8 : (rest.map fun v => v.category).sum ≤ 8) (hR : fr + 1 ≤ rm.frames ∧ 8 + (maxL + 11) + lo ≤ rm.locals) (hroom : w.2.1 + mc ≤ k0 + rm.cells ∧ w.2.2 + ms ≤ n0 + rm.slots)
    (kk : ∀ (v : Option Value) (w' : jW), post v w' → JJ g w' (pc + 3) L (v.toList ++ rest)) : JJ g w pc L st := by
  obtain ⟨hC, rfl, rfl, rfl, rfl⟩ := C
  obtain ⟨rfl, rfl, rfl⟩ := Rm
  obtain ⟨rfl, rfl, rfl, rfl⟩ := Y
  obtain ⟨hx, hb, hml, ho, hts, hK, -, -, hSt, -⟩ := id hC
  subst hst
  intro H locs ls h1 h2 h3 h4 h5
  exact j_after hC h4 h5 (va_runI (As := As) (rest := rest) ⟨hx, hb, hml, ho, hts⟩ hM ⟨hc.1.call hts (hts _ hc.2.2.2) hR, hc.2.2.1, hts _ hc.2.1⟩ ⟨jPc_blind _ _ _ _ _, fun U hU hW => ⟨rfl, by rw [hU]; exact h1, hK.moved hW, hSt.moved hW⟩⟩ rfl hn h5.1 rfl (lv_room h8) hd ⟨by omega, by omega⟩) kk
theorem jcB.callN {y : MethodName} {host : String} {bytes : ByteArray} {maxL n idx fr lo : Nat} {ret : Option FieldType} {s : State} {args : Array Value} {R : Room} (h : jcB y bytes maxL ret n) (hts : ∀ w ∈ jwd, w.before args s = true) (hl : va_Nw (.methodLinkNest own idx y host) s) (hR : fr + 1 ≤ R.frames ∧ 8 + (maxL + 11) + lo ≤ R.locals) : va_CN R s args own idx y host bytes maxL ret (Cond.code y bytes maxL ret :: jwd) ({ frames := fr, cells := mc, slots := ms, locals := lo } : Room) mc ms n :=
  va_cnB n hts (jgood h.2.1) rfl rfl rfl hl (hts _ h.1) ⟨h.2.2.1.1, h.2.2.1.2, h.2.2.2⟩ hR
theorem j_callSn (C : jX g cc nL own D) (Rm : jRm g k0 n0 rm) (Y : jY g l B H0 y0) {idx n maxL fr lo : Nat} {y : MethodName} {bytes : ByteArray} {ret : Option FieldType} {As : List Value} (rest : List Value) (hM : jMet l D B H0 y bytes maxL ret fr lo mc ms As w post) (hc : jcSn own idx y bytes maxL ret n) (hd : decode cc pc = .ok (.invokestatic idx, 3)) (hn : As.length = n) (hst : st = As.reverse ++ rest) (h8 : (rest.map fun v => v.category).sum ≤ 8) (hR : fr + 1 ≤ rm.frames ∧ 8 + (maxL + 11) + lo ≤ rm.locals) (hroom : w.2.1 + mc ≤ k0 + rm.cells ∧ w.2.2 + ms ≤ n0 + rm.slots)
    (kk : ∀ (v : Option Value) (w' : jW), post v w' → JJ g w' (pc + 3) L (v.toList ++ rest)) : JJ g w pc L st := by
  obtain ⟨hC, rfl, rfl, rfl, rfl⟩ := C
  obtain ⟨rfl, rfl, rfl⟩ := Rm
  obtain ⟨rfl, rfl, rfl, rfl⟩ := Y
  obtain ⟨hx, hb, hml, ho, hts, hK, -, -, hSt, -⟩ := id hC
  obtain ⟨hcB, hcs, host, hch⟩ := hc
  subst hst
  intro H locs ls h1 h2 h3 h4 h5
  exact j_after hC h4 h5 (va_runSN (As := As) (rest := rest) ⟨hx, hb, hml, ho, hts⟩ hM ⟨hcB.callN hts (hK.2.2.2 _ hch) hR, hts _ hcs, trivial⟩ ⟨jPc_blind _ _ _ _ _, fun U hU hW => ⟨rfl, by rw [hU]; exact h1, hK.moved hW, hSt.moved hW⟩⟩ rfl hn h5.1 rfl (lv_room h8) hd ⟨by omega, by omega⟩) kk
theorem j_callIn (C : jX g cc nL own D) (Rm : jRm g k0 n0 rm) (Y : jY g l B H0 y0) {idx n maxL fr lo a : Nat} {y : MethodName} {bytes : ByteArray} (As rest : List Value) (hM : jMet l D B H0 y bytes maxL none fr lo mc ms (.ref a :: As) w post) (hc : jcIn own idx y bytes maxL n) (hd : decode cc pc = .ok (.invokespecial idx, 3)) (hn : As.length = n) (hst : st = As.reverse ++ .ref a :: rest) (h8 : (rest.map fun v => v.category).sum ≤ 8) (hR : fr + 1 ≤ rm.frames ∧ 8 + (maxL + 11) + lo ≤ rm.locals) (hroom : w.2.1 + mc ≤ k0 + rm.cells ∧ w.2.2 + ms ≤ n0 + rm.slots)
    (kk : ∀ (v : Option Value) (w' : jW), post v w' → JJ g w' (pc + 3) L (v.toList ++ rest)) : JJ g w pc L st := by
  obtain ⟨hC, rfl, rfl, rfl, rfl⟩ := C
  obtain ⟨rfl, rfl, rfl⟩ := Rm
  obtain ⟨rfl, rfl, rfl, rfl⟩ := Y
  obtain ⟨hx, hb, hml, ho, hts, hK, -, -, hSt, -⟩ := id hC
  obtain ⟨hcB, hci, hcn, host, hch⟩ := hc
  subst hst
  intro H locs ls h1 h2 h3 h4 h5
  exact j_after hC h4 h5 (va_runIN (As := As) (rest := rest) ⟨hx, hb, hml, ho, hts⟩ hM ⟨hcB.callN hts (hK.2.2.2 _ hch) hR, hcn, hts _ hci⟩ ⟨jPc_blind _ _ _ _ _, fun U hU hW => ⟨rfl, by rw [hU]; exact h1, hK.moved hW, hSt.moved hW⟩⟩ rfl hn h5.1 rfl (lv_room h8) hd ⟨by omega, by omega⟩) kk
/-- Object.<init> -/
def jcO (own : String) (idx : Nat) : Prop := Cond.methodLink own idx objectInit ∈ jwd ∧ Cond.instanceMethod objectInit ∈ jwd ∧ Cond.code objectInit ⟨#[0xb1]⟩ 1 none ∈ jwd
theorem j_obj (C : jX g cc nL own D) (Rm : jRm g k0 n0 rm) {idx a : Nat} (hc : jcO own idx) (hd : decode cc pc = .ok (.invokespecial idx, 3)) (hf : 1 ≤ rm.frames) (hl : (st.map fun v => v.category).sum + 12 ≤ rm.locals) (kk : JJ g w (pc + 3) L st) : JJ g w pc L (.ref a :: st) := by
  obtain ⟨⟨hx, hb, hml, ho, hts, hK, -⟩, rfl, rfl, rfl, rfl⟩ := C
  obtain ⟨rfl, rfl, rfl⟩ := Rm
  intro H locs ls h1 h2 h3 h4 h5
  refine W.objInit hx hb ho (hts _ hc.1) (hts _ hc.2.1) (hts _ hc.2.2) rfl (by rw [hml]; exact h5.1) rfl hd hf (by show 2 * 0 + _ + 12 ≤ _; omega) ?_
  exact kk H locs ls h1 h2 h3 h4 h5
end JC
