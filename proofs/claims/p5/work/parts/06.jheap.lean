/-! THE J LAYER: the heap (own work) -/
abbrev aI (D : va_G) (n : Nat) (f : Nat → Int32) : jEl := .inl (D.1 100, n, .inl f)
abbrev aJ (D : va_G) (n : Nat) (f : Nat → Int64) : jEl := .inl (D.1 101, n, .inr (.inl f))
abbrev aZ (D : va_G) (n : Nat) (f : Nat → Int32) : jEl := .inl (D.1 102, n, .inl f)
abbrev aR (D : va_G) (t : Nat) (n : Nat) (f : Nat → Option Nat) : jEl := .inl (D.1 (100 + t), n, .inr (.inr (.inr (.inr f))))
/-- an object's fields from a list -/
def jf (fs : List Value) : Nat → Value := fun k => fs.getD k .null
/-- the context, with its bytes, number of locals, class and class numbers named -/
def jX (g : jG) (cc : ByteArray) (nL : Nat) (own : String) (D : va_G) : Prop := jC g ∧ jGo g = cc ∧ jGL g = nL ∧ (jGy g).cls = own ∧ jGD g = D
/-- the room, named -/
def jRm (g : jG) (k n : Nat) (rm : Room) : Prop := jGk g = k ∧ jGn g = n ∧ jGR g = rm
theorem jK0 {D : va_G} {s : State} (h : jK D s) : va_K D vwCl [] s := ⟨h.1, fun k q h => by simp at h⟩
theorem jK1 {D : va_G} {s : State} (h : jK D s) {k : Nat} {ty : FieldType} (hk : jAT[k]? = some ty) : ArrOfT s (D.1 (100 + k)) ty := (h.2.1 k ty hk).arr
section JH
variable {g : jG} {w : jW} {cc : ByteArray} {nL pc : Nat} {own : String} {D : va_G} {L : List (Nat × Value)} {st : List Value}
theorem j_blk {b : List jE} (pc' : Nat) (L' : List (Nat × Value)) (st' : List Value) (C : jX g cc nL own D) (hb : sblk cc b) (h : sxs nL b pc L st = some (pc', L', st')) (kk : JJ g w pc' L' st') : JJ g w pc L st := j_run pc' L' st' C.1 C.2.2.1 C.2.1 hb h kk
/-- fields -/
def jF (own : String) (idx ci k : Nat) : Prop := ∃ (C : String) (T : u_T) (N : Nat), vwCl[ci]? = some (C, T, N) ∧ k < N ∧ Cond.fieldLink own idx (T k).1 (T k).2.1 (T k).2.2.1 ∈ jwd ∧ (∀ w ∈ u_ws C T N, w ∈ jwd)
def jFn (own : String) (idx ci k : Nat) : Prop := ∃ (C : String) (T : u_T) (N : Nat) (host : String), vwCl[ci]? = some (C, T, N) ∧ k < N ∧ Cond.fieldLinkNest own idx (T k).1 (T k).2.1 (T k).2.2.1 host ∈ jnest ∧ (∀ w ∈ u_ws C T N, w ∈ jwd)
/-- a class's table is in order -/
def jT (T : u_T) (N : Nat) : Prop := (∃ ty : Nat → FieldType, ∀ k, k < N → parseFieldDescriptor (T k).2.2.1 = some (ty k)) ∧ ∀ a, a < N → ∀ b, b < N → a ≠ b → (T a).2.1 ≠ (T b).2.1
def jFp (own : String) (idx ci k : Nat) (ty : FieldType) : Prop := ∃ (C : String) (T : u_T) (N : Nat), vwCl[ci]? = some (C, T, N) ∧ k < N ∧ Cond.fieldLink own idx (T k).1 (T k).2.1 (T k).2.2.1 ∈ jwd ∧ (∀ w ∈ u_ws C T N, w ∈ jwd) ∧ jT T N ∧ (T k).2.2.2 = false ∧ parseFieldDescriptor (T k).2.2.1 = some ty
def jFpn (own : String) (idx ci k : Nat) (ty : FieldType) : Prop := ∃ (C : String) (T : u_T) (N : Nat) (host : String), vwCl[ci]? = some (C, T, N) ∧ k < N ∧ Cond.fieldLinkNest own idx (T k).1 (T k).2.1 (T k).2.2.1 host ∈ jnest ∧ (∀ w ∈ u_ws C T N, w ∈ jwd) ∧ jT T N ∧ (T k).2.2.2 = false ∧ parseFieldDescriptor (T k).2.2.1 = some ty
def jFf (own : String) (idx ci k : Nat) (ty : FieldType) : Prop := ∃ (C : String) (T : u_T) (N : Nat), vwCl[ci]? = some (C, T, N) ∧ k < N ∧ Cond.fieldLink own idx (T k).1 (T k).2.1 (T k).2.2.1 ∈ jwd ∧ (∀ w ∈ u_ws C T N, w ∈ jwd) ∧ jT T N ∧ (T k).2.2.2 = true ∧ (T k).1 = own ∧ parseFieldDescriptor (T k).2.2.1 = some ty
theorem j_get (C : jX g cc nL own D) {a idx ci k : Nat} {V : Nat → Value} {v : Value} (hd : decode cc pc = .ok (.getfield idx, 3)) (hf : jF own idx ci k) (hM : w.1 a = some (.inr (ci, V))) (hv : V k = v) (kk : JJ g w (pc + 3) L (v :: st)) : JJ g w pc L (.ref a :: st) := by
  obtain ⟨⟨hx, hb, hml, ho, hts, hK, -⟩, rfl, rfl, rfl, rfl⟩ := C
  obtain ⟨C0, T, N, hc, hk, hl, hin⟩ := hf
  intro H locs ls h1 h2 h3 h4 h5
  obtain ⟨r, hr1, cell, q1, q2, q3, q4⟩ := h1.at hM
  have hr : r = (C0, T, N) := Option.some.inj (hr1.symm.trans hc)
  subst hr
  obtain ⟨hS, hfc, kC, hkC, hkind⟩ := hK.1 ci _ hc
  obtain ⟨cf, kf, fi, f, hi, hsl⟩ := hS k hk
  exact W.getf hx hb ho (hts _ hl) hi (u_facts hfc hkC (u_lays hts hin hk) hi).1 q1 (by rw [q3]; exact fun h => by cases h) (v := v) (by rw [hsl, q4 k hk]; exact congrArg some hv) rfl rfl hd (kk H locs ls h1 h2 h3 h4 h5)
theorem j_getN (C : jX g cc nL own D) {a idx ci k : Nat} {V : Nat → Value} {v : Value} (hd : decode cc pc = .ok (.getfield idx, 3)) (hf : jFn own idx ci k) (hM : w.1 a = some (.inr (ci, V))) (hv : V k = v) (kk : JJ g w (pc + 3) L (v :: st)) : JJ g w pc L (.ref a :: st) := by
  obtain ⟨⟨hx, hb, hml, ho, hts, hK, -⟩, rfl, rfl, rfl, rfl⟩ := C
  obtain ⟨C0, T, N, host, hc, hk, hl, hin⟩ := hf
  intro H locs ls h1 h2 h3 h4 h5
  obtain ⟨r, hr1, cell, q1, q2, q3, q4⟩ := h1.at hM
  have hr : r = (C0, T, N) := Option.some.inj (hr1.symm.trans hc)
  subst hr
  obtain ⟨hS, hfc, kC, hkC, hkind⟩ := hK.1 ci _ hc
  obtain ⟨cf, kf, fi, f, hi, hsl⟩ := hS k hk
  exact va_Wgetf hx hb ho (va_Nw.use rfl (hK.2.2.2 _ hl)) hi (u_facts hfc hkC (u_lays hts hin hk) hi).1 q1 (by rw [q3]; exact fun h => by cases h) (v := v) (by rw [hsl, q4 k hk]; exact congrArg some hv) rfl rfl hd (kk H locs ls h1 h2 h3 h4 h5)
theorem jlcs {locs : List Loc} {B a i : Nat} (h : ∀ q ∈ locs, B ≤ q.base) (ha : B ≤ a) : ∀ q ∈ locs ++ [(⟨a, i⟩ : Loc)], B ≤ q.base := fun q hq => by
  rcases List.mem_append.mp hq with h1 | h1
  · exact h q h1
  · rw [List.mem_singleton] at h1; subst h1; exact ha
theorem jsz (c : Cell) (i : Nat) (v : Value) : (c.setSlot i v).slots.size = c.slots.size := by simp [Cell.setSlot]
theorem j_put (C : jX g cc nL own D) {a idx ci k : Nat} {V : Nat → Value} {v : Value} {ty : FieldType} (hd : decode cc pc = .ok (.putfield idx, 3)) (hf : jFp own idx ci k ty) (hM : w.1 a = some (.inr (ci, V))) (hn : narrow ty v = v) (hfit : fits ty v = true) (kk : JJ g (va_up w.1 a (some (.inr (ci, updV V k v))), w.2) (pc + 3) L st) : JJ g w pc L (v :: .ref a :: st) := by
  obtain ⟨⟨hx, hb, hml, ho, hts, hK, -⟩, rfl, rfl, rfl, rfl⟩ := C
  obtain ⟨C0, T, N, hc, hk, hlk, hin, ⟨⟨ty0, hty⟩, hnm⟩, hfin, hpd⟩ := hf
  intro H locs ls h1 h2 h3 h4 h5
  have hap := va_apart (own := (jGy g).cls) hts hin ty0 hty hnm (jK0 hK) hc
  obtain ⟨r, hr1, cell, q1, q2, q3, q4⟩ := h1.at hM
  have hr : r = (C0, T, N) := Option.some.inj (hr1.symm.trans hc)
  subst hr
  obtain ⟨hS, hfc, kC, hkC, hkind⟩ := hK.1 ci _ hc
  obtain ⟨cf, kf, fi, f, hi, hsl⟩ := hS k hk
  have hlay := hts _ (hin _ (u_in_lay hk))
  unfold u_lay at hlay
  rw [if_neg (by rw [hfin]; decide)] at hlay
  have hst := (u_facts hfc hkC (u_lays hts hin hk) hi).1
  have h6 := u_store hfc hkC hkind hlay hi hpd hn hfit
  refine W.putK hx hb (f := f) ⟨ho, hts _ hlk, ⟨_, _, _, hi⟩, hst⟩ (by rw [q2]; exact h6) q1 q3 (by rw [hsl]; exact k2_hasslot (q4 k hk)) rfl rfl hd fun H' e1 e2 e3 => ?_
  have e4 := e1
  rw [hsl] at e4
  exact kk H' _ ls (h1.set hM e2 q1 e1 (jsz _ _ _) e3 ⟨_, hc, ⟨_, e4, q2, q3, t_set q4 hap hk v⟩⟩) h2 h3 (jlcs h4 (h1.le hM)) h5
theorem j_putN (C : jX g cc nL own D) {a idx ci k : Nat} {V : Nat → Value} {v : Value} {ty : FieldType} (hd : decode cc pc = .ok (.putfield idx, 3)) (hf : jFpn own idx ci k ty) (hM : w.1 a = some (.inr (ci, V))) (hn : narrow ty v = v) (hfit : fits ty v = true) (kk : JJ g (va_up w.1 a (some (.inr (ci, updV V k v))), w.2) (pc + 3) L st) : JJ g w pc L (v :: .ref a :: st) := by
  obtain ⟨⟨hx, hb, hml, ho, hts, hK, -⟩, rfl, rfl, rfl, rfl⟩ := C
  obtain ⟨C0, T, N, host, hc, hk, hlk, hin, ⟨⟨ty0, hty⟩, hnm⟩, hfin, hpd⟩ := hf
  intro H locs ls h1 h2 h3 h4 h5
  have hap := va_apart (own := (jGy g).cls) hts hin ty0 hty hnm (jK0 hK) hc
  obtain ⟨r, hr1, cell, q1, q2, q3, q4⟩ := h1.at hM
  have hr : r = (C0, T, N) := Option.some.inj (hr1.symm.trans hc)
  subst hr
  obtain ⟨hS, hfc, kC, hkC, hkind⟩ := hK.1 ci _ hc
  obtain ⟨cf, kf, fi, f, hi, hsl⟩ := hS k hk
  have hlay := hts _ (hin _ (u_in_lay hk))
  unfold u_lay at hlay
  rw [if_neg (by rw [hfin]; decide)] at hlay
  have hst := (u_facts hfc hkC (u_lays hts hin hk) hi).1
  have h6 := u_store hfc hkC hkind hlay hi hpd hn hfit
  refine va_WputK hx hb (f := f) ho (va_Nw.use rfl (hK.2.2.2 _ hlk)) hi hst (by rw [q2]; exact h6) q1 q3 (by rw [hsl]; exact k2_hasslot (q4 k hk)) rfl rfl hd fun H' e1 e2 e3 => ?_
  have e4 := e1
  rw [hsl] at e4
  exact kk H' _ ls (h1.set hM e2 q1 e1 (jsz _ _ _) e3 ⟨_, hc, ⟨_, e4, q2, q3, t_set q4 hap hk v⟩⟩) h2 h3 (jlcs h4 (h1.le hM)) h5
theorem j_putF (C : jX g cc nL own D) (hin9 : (jGy g).name = "<init>") {a idx ci k : Nat} {V : Nat → Value} {v : Value} {ty : FieldType} (hd : decode cc pc = .ok (.putfield idx, 3)) (hf : jFf own idx ci k ty) (hM : w.1 a = some (.inr (ci, V))) (hn : narrow ty v = v) (hfit : fits ty v = true) (kk : JJ g (va_up w.1 a (some (.inr (ci, updV V k v))), w.2) (pc + 3) L st) : JJ g w pc L (v :: .ref a :: st) := by
  obtain ⟨⟨hx, hb, hml, ho, hts, hK, hnam, -⟩, rfl, rfl, rfl, rfl⟩ := C
  obtain ⟨C0, T, N, hc, hk, hlk, hin, ⟨⟨ty0, hty⟩, hnm⟩, hfin, hdecl, hpd⟩ := hf
  intro H locs ls h1 h2 h3 h4 h5
  have hap := va_apart (own := (jGy g).cls) hts hin ty0 hty hnm (jK0 hK) hc
  obtain ⟨r, hr1, cell, q1, q2, q3, q4⟩ := h1.at hM
  have hr : r = (C0, T, N) := Option.some.inj (hr1.symm.trans hc)
  subst hr
  obtain ⟨hS, hfc, kC, hkC, hkind⟩ := hK.1 ci _ hc
  obtain ⟨cf, kf, fi, f, hi, hsl⟩ := hS k hk
  have hlay := hts _ (hin _ (u_in_lay hk))
  unfold u_lay at hlay
  rw [if_pos hfin] at hlay
  have hst := (u_facts hfc hkC (u_lays hts hin hk) hi).1
  have hcf : (jGm g).cls = cf := by
    obtain ⟨_, _, c', _, _, _, -, -, hf', -, -, -, hown2, -⟩ := Cond.laysFinal_spec hlay
    have e1 : c' = cf := by have := hi.symm.trans hf'; simp at this; exact this.1.symm
    rw [hdecl] at hown2
    rw [← e1]; exact Option.some.inj (ho.symm.trans hown2)
  have h6 := u_fits hfc hkC hkind (Or.inr hlay) hi hpd hn hfit
  refine W.putFinK hx hb ho (hts _ hlk) hi hst hcf (hnam.trans hin9) (by rw [q2]; exact h6) q1 q3 (by rw [hsl]; exact k2_hasslot (q4 k hk)) rfl rfl hd fun H' e1 e2 e3 => ?_
  have e4 := e1
  rw [hsl] at e4
  exact kk H' _ ls (h1.set hM e2 q1 e1 (jsz _ _ _) e3 ⟨_, hc, ⟨_, e4, q2, q3, t_set q4 hap hk v⟩⟩) h2 h3 (jlcs h4 (h1.le hM)) h5
theorem j_iald (C : jX g cc nL own D) {a n : Nat} {f : Nat → Int32} {i : Int32} (hd : decode cc pc = .ok (.iaload, 1)) (hM : w.1 a = some (aI D n f)) (hin : vp_in i n) (kk : JJ g w (pc + 1) L (.int (f i.toNatClampNeg) :: st)) : JJ g w pc L (.int i :: .ref a :: st) := by
  obtain ⟨⟨hx, hb, hml, ho, hts, hK, -⟩, rfl, rfl, rfl, rfl⟩ := C
  intro H locs ls h1 h2 h3 h4 h5
  have hlt : i.toNatClampNeg < n := Nat.not_le.mp fun q => hin (Or.inr q)
  exact W.iald (v := .int (f i.toNatClampNeg)) hx hb (h1.at hM) (jK1 hK (k := 0) rfl n (fun j => .int (f j))) (fun q => by cases q) (by show ¬ (i < 0 ∨ (arrV _ _ _).slots.size ≤ _); rw [arrV_size]; exact hin) (by show (arrV _ _ _).slots[_]? = _; rw [arrV_read _ _ hlt]) rfl rfl hd (kk H locs ls h1 h2 h3 h4 h5)
theorem j_lald (C : jX g cc nL own D) {a n : Nat} {f : Nat → Int64} {i : Int32} (hd : decode cc pc = .ok (.laload, 1)) (hM : w.1 a = some (aJ D n f)) (hin : vp_in i n) (kk : JJ g w (pc + 1) L (.long (f i.toNatClampNeg) :: st)) : JJ g w pc L (.int i :: .ref a :: st) := by
  obtain ⟨⟨hx, hb, hml, ho, hts, hK, -⟩, rfl, rfl, rfl, rfl⟩ := C
  intro H locs ls h1 h2 h3 h4 h5
  have hlt : i.toNatClampNeg < n := Nat.not_le.mp fun q => hin (Or.inr q)
  exact W.lald (v := .long (f i.toNatClampNeg)) hx hb (h1.at hM) (jK1 hK (k := 1) rfl n (fun j => .long (f j))) (fun q => by cases q) (by show ¬ (i < 0 ∨ (arrV _ _ _).slots.size ≤ _); rw [arrV_size]; exact hin) (by show (arrV _ _ _).slots[_]? = _; rw [arrV_read _ _ hlt]) rfl rfl hd (kk H locs ls h1 h2 h3 h4 h5)
theorem j_zald (C : jX g cc nL own D) {a n : Nat} {f : Nat → Int32} {i : Int32} (hd : decode cc pc = .ok (.baload, 1)) (hM : w.1 a = some (aZ D n f)) (hin : vp_in i n) (kk : JJ g w (pc + 1) L (.int (f i.toNatClampNeg) :: st)) : JJ g w pc L (.int i :: .ref a :: st) := by
  obtain ⟨⟨hx, hb, hml, ho, hts, hK, -⟩, rfl, rfl, rfl, rfl⟩ := C
  intro H locs ls h1 h2 h3 h4 h5
  have hlt : i.toNatClampNeg < n := Nat.not_le.mp fun q => hin (Or.inr q)
  exact W.zald (v := .int (f i.toNatClampNeg)) hx hb (h1.at hM) (jK1 hK (k := 2) rfl n (fun j => .int (f j))) (fun q => by cases q) (by show ¬ (i < 0 ∨ (arrV _ _ _).slots.size ≤ _); rw [arrV_size]; exact hin) (by show (arrV _ _ _).slots[_]? = _; rw [arrV_read _ _ hlt]) rfl rfl hd (kk H locs ls h1 h2 h3 h4 h5)
theorem j_aald (C : jX g cc nL own D) {a n t : Nat} {f : Nat → Option Nat} {i : Int32} {v : Value} {ty : FieldType} (hd : decode cc pc = .ok (.aaload, 1)) (ht : jAT[t]? = some ty) (hr : ty.isReference = true) (hM : w.1 a = some (aR D t n f)) (hin : vp_in i n) (hv : va_rf (f i.toNatClampNeg) = v) (kk : JJ g w (pc + 1) L (v :: st)) : JJ g w pc L (.int i :: .ref a :: st) := by
  obtain ⟨⟨hx, hb, hml, ho, hts, hK, -⟩, rfl, rfl, rfl, rfl⟩ := C
  subst hv
  intro H locs ls h1 h2 h3 h4 h5
  have hlt : i.toNatClampNeg < n := Nat.not_le.mp fun q => hin (Or.inr q)
  exact W.aald (v := va_rf (f i.toNatClampNeg)) (ty := ty) hx hb (h1.at hM) (jK1 hK ht n (fun j => va_rf (f j))) hr (fun q => by cases q) (by show ¬ (i < 0 ∨ (arrV _ _ _).slots.size ≤ _); rw [arrV_size]; exact hin) (by show (arrV _ _ _).slots[_]? = _; rw [arrV_read _ _ hlt]) rfl rfl hd (kk H locs ls h1 h2 h3 h4 h5)
theorem jarrsz (c : ClassId) (n : Nat) (f f' : Nat → Value) : (arrV c n f).slots.size = (arrV c n f').slots.size := by rw [arrV_size, arrV_size]
theorem j_iast (C : jX g cc nL own D) {a n : Nat} {f : Nat → Int32} {i : Int32} {x : Int32} (hd : decode cc pc = .ok (.iastore, 1)) (hM : w.1 a = some (aI D n f)) (hin : vp_in i n) (kk : JJ g (va_up w.1 a (some (aI D n (upd f i.toNatClampNeg x))), w.2) (pc + 1) L st) : JJ g w pc L (.int x :: .int i :: .ref a :: st) := by
  obtain ⟨⟨hx, hb, hml, ho, hts, hK, -⟩, rfl, rfl, rfl, rfl⟩ := C
  intro H locs ls h1 h2 h3 h4 h5
  refine W.iast hx hb (h1.at hM) (jK1 hK (k := 0) rfl n (fun j => .int (f j))) (fun q => by cases q) (by show ¬ (i < 0 ∨ (arrV _ _ _).slots.size ≤ _); rw [arrV_size]; exact hin) rfl rfl hd fun H1 e z oq => ?_
  have ec : H1[a]? = some (vp_cell ((jGD g).1 100) (n, .inl (upd f i.toNatClampNeg x))) := by
    rw [e]
    rw [vp_cell_i, vp_cell_i, arrV_store]
    congr 2
    funext q
    by_cases hq : q = i.toNatClampNeg
    · subst hq
      simp [updV, upd]
      try rfl
    · simp [updV, upd, hq]
  exact kk H1 _ ls (h1.set hM z (h1.at hM) ec (by rw [vp_cell_i, vp_cell_i]; exact jarrsz _ _ _ _) oq ec) h2 h3 (jlcs h4 (h1.le hM)) h5
theorem j_last (C : jX g cc nL own D) {a n : Nat} {f : Nat → Int64} {i : Int32} {x : Int64} (hd : decode cc pc = .ok (.lastore, 1)) (hM : w.1 a = some (aJ D n f)) (hin : vp_in i n) (kk : JJ g (va_up w.1 a (some (aJ D n (vp_updL f i.toNatClampNeg x))), w.2) (pc + 1) L st) : JJ g w pc L (.long x :: .int i :: .ref a :: st) := by
  obtain ⟨⟨hx, hb, hml, ho, hts, hK, -⟩, rfl, rfl, rfl, rfl⟩ := C
  intro H locs ls h1 h2 h3 h4 h5
  refine W.last hx hb (h1.at hM) (jK1 hK (k := 1) rfl n (fun j => .long (f j))) (fun q => by cases q) (by show ¬ (i < 0 ∨ (arrV _ _ _).slots.size ≤ _); rw [arrV_size]; exact hin) rfl rfl hd fun H1 e z oq => ?_
  have ec : H1[a]? = some (vp_cell ((jGD g).1 101) (n, .inr <| .inl (vp_updL f i.toNatClampNeg x))) := by
    rw [e]
    rw [vp_cell_l, vp_cell_l, arrV_store]
    congr 2
    funext q
    by_cases hq : q = i.toNatClampNeg
    · subst hq
      simp [updV, vp_updL]
      try rfl
    · simp [updV, vp_updL, hq]
  exact kk H1 _ ls (h1.set hM z (h1.at hM) ec (by rw [vp_cell_l, vp_cell_l]; exact jarrsz _ _ _ _) oq ec) h2 h3 (jlcs h4 (h1.le hM)) h5
theorem j_zast (C : jX g cc nL own D) {a n : Nat} {f : Nat → Int32} {i : Int32} {x : Int32} (hd : decode cc pc = .ok (.bastore, 1)) (hM : w.1 a = some (aZ D n f)) (hin : vp_in i n) (kk : JJ g (va_up w.1 a (some (aZ D n (upd f i.toNatClampNeg (vp_nar .boolean x)))), w.2) (pc + 1) L st) : JJ g w pc L (.int x :: .int i :: .ref a :: st) := by
  obtain ⟨⟨hx, hb, hml, ho, hts, hK, -⟩, rfl, rfl, rfl, rfl⟩ := C
  intro H locs ls h1 h2 h3 h4 h5
  refine W.zast hx hb (h1.at hM) (jK1 hK (k := 2) rfl n (fun j => .int (f j))) (fun q => by cases q) (by show ¬ (i < 0 ∨ (arrV _ _ _).slots.size ≤ _); rw [arrV_size]; exact hin) rfl rfl hd fun H1 e z oq => ?_
  have ec : H1[a]? = some (vp_cell ((jGD g).1 102) (n, .inl (upd f i.toNatClampNeg (vp_nar .boolean x)))) := by
    rw [e]
    rw [vp_cell_i, vp_cell_i, arrV_store]
    congr 2
    funext q
    by_cases hq : q = i.toNatClampNeg
    · subst hq
      simp [updV, upd, vp_nar]
      try rfl
    · simp [updV, upd, hq]
  exact kk H1 _ ls (h1.set hM z (h1.at hM) ec (by rw [vp_cell_i, vp_cell_i]; exact jarrsz _ _ _ _) oq ec) h2 h3 (jlcs h4 (h1.le hM)) h5
theorem j_alen (C : jX g cc nL own D) {a n t : Nat} {x : vp_A} {ty : FieldType} (hd : decode cc pc = .ok (.arraylength, 1)) (ht : jAT[t]? = some ty) (hM : w.1 a = some (.inl (D.1 (100 + t), x))) (hn : x.1 = n) (kk : JJ g w (pc + 1) L (.int (Int32.ofNat n) :: st)) : JJ g w pc L (.ref a :: st) := by
  obtain ⟨⟨hx, hb, hml, ho, hts, hK, -⟩, rfl, rfl, rfl, rfl⟩ := C
  intro H locs ls h1 h2 h3 h4 h5
  obtain ⟨k, y⟩ := x
  cases hn
  have ha := h1.at hM
  have key : ∃ z : Nat → Value, vp_cell ((jGD g).1 (100 + t)) (k, y) = arrV ((jGD g).1 (100 + t)) k z := by
    rcases y with f | f | f | f | f
    · exact ⟨_, vp_cell_i _ _ _⟩
    · exact ⟨_, vp_cell_l _ _ _⟩
    · exact ⟨_, vp_cell_f _ _ _⟩
    · exact ⟨_, vp_cell_d _ _ _⟩
    · exact ⟨_, vp_cell_q _ _ _⟩
  obtain ⟨z, hz⟩ := key
  exact W.alen (n := Int32.ofNat k) hx hb (ha.trans (congrArg some hz)) (jK1 hK ht k z) (by rw [arrV_size] <;> rfl) rfl rfl hd (kk H locs ls h1 h2 h3 h4 h5)
theorem j_aast (C : jX g cc nL own D) {a n t v ci : Nat} {r : vw_C} {vs : Nat → Value} {f : Nat → Option Nat} {i : Int32} (hd : decode cc pc = .ok (.aastore, 1)) (hc : vwCl[ci]? = some r) (ht : jAT[t]? = some (.object r.1)) (hM : w.1 a = some (aR D t n f)) (hv : w.1 v = some (.inr (ci, vs))) (hin : vp_in i n) (kk : JJ g (va_up w.1 a (some (aR D t n (va_up f i.toNatClampNeg (some v)))), w.2) (pc + 1) L st) : JJ g w pc L (.ref v :: .int i :: .ref a :: st) := by
  obtain ⟨⟨hx, hb, hml, ho, hts, hK, -⟩, rfl, rfl, rfl, rfl⟩ := C
  intro H locs ls h1 h2 h3 h4 h5
  have hlt : i.toNatClampNeg < n := Nat.not_le.mp fun q => hin (Or.inr q)
  have h0 : ¬ i < 0 := fun q => hin (Or.inl q)
  obtain ⟨r', hr', cellV, g1, g2, g3, -⟩ := h1.at hv
  have hcls := (hK.1 ci r hc).2
  obtain ⟨kA, comp, k1, k2, -, k3⟩ := hK.2.1 t _ ht
  have hcomp : comp = (jGD g).1 ci := Option.some.inj ((k3 rfl).symm.trans hcls.1)
  subst hcomp
  obtain ⟨kC, hkC, -⟩ := hcls.2
  refine W.aast hx hb (h1.at hM) (fun q h => by cases h) (fun h => by cases h) k1 k2 rfl hkC ⟨h0, by show _ < (arrV _ _ _).slots.size; rw [arrV_size]; exact hlt⟩ g1 (fun q h => by rw [g3] at h; cases h) (by rw [g2]; exact hkC) (by rw [g2]; exact va_assign hcls) rfl rfl hd fun H1 e z oq => ?_
  have ec : H1[a]? = some (vp_cell ((jGD g).1 (100 + t)) (n, .inr (.inr (.inr (.inr (va_up f i.toNatClampNeg (some v))))))) := by
    rw [e]
    rw [vp_cell_q, vp_cell_q, arrV_store]
    congr 2
    funext q
    by_cases hq : q = i.toNatClampNeg
    · subst hq
      simp [updV, va_up, va_rf]
    · simp [updV, va_up, hq]
  exact kk H1 _ ls (h1.set hM z (h1.at hM) ec (by rw [vp_cell_q, vp_cell_q]; exact jarrsz _ _ _ _) oq ec) h2 h3 (jlcs h4 (h1.le hM)) h5
end JH
