/-! THE J LAYER: making, branches, ends, calls (own work) -/
section JN
variable {g : jG} {w : jW} {cc : ByteArray} {nL pc : Nat} {own : String} {D : va_G} {L : List (Nat × Value)} {st : List Value} {k0 n0 : Nat} {rm : Room}
/-- a class's objects as they are made -/
def jNew (own : String) (idx ci n : Nat) (V : Nat → Value) : Prop := ∃ (C : String) (T : u_T) (N : Nat) (ty : Nat → FieldType), vwCl[ci]? = some (C, T, N) ∧ Cond.classLink own idx C ∈ jwd ∧ Cond.instantiable C n ∈ jwd ∧ Cond.initialized C ∈ jwd ∧ (∀ w ∈ u_ws C T N, w ∈ jwd) ∧ (∀ k, k < N → parseFieldDescriptor (T k).2.2.1 = some (ty k)) ∧ ∀ k, k < N → V k = defaultValue (ty k)
theorem j_new (C : jX g cc nL own D) (Rm : jRm g k0 n0 rm) {idx ci n : Nat} {V : Nat → Value} (hd : decode cc pc = .ok (.new idx, 3)) (hf : jNew own idx ci n V) (hc1 : w.2.1 + 1 ≤ k0 + rm.cells) (hc2 : w.2.2 + n ≤ n0 + rm.slots)
    (kk : ∀ q : Nat, (∀ a e, w.1 a = some e → a < q) → JJ g (va_up w.1 q (some (.inr (ci, V))), w.2.1 + 1, w.2.2 + n) (pc + 3) L (.ref q :: st)) : JJ g w pc L st := by
  obtain ⟨⟨hx, hb, hml, ho, hts, hK, -⟩, rfl, rfl, rfl, rfl⟩ := C
  obtain ⟨C0, T, N, ty, hc, hcl, hins, hini, hin, hty, hfs⟩ := hf
  obtain ⟨rfl, rfl, rfl⟩ := Rm
  intro H locs ls h1 h2 h3 h4 h5
  refine W.newc hx hb ho (hts _ hcl) (hts _ hins) (hts _ hini) rfl hd (by omega) (by omega) fun cC kC e1 e2 e3 e4 => ?_
  have hKn := hK.1 ci _ hc
  have ecC : cC = (jGD g).1 ci := Option.some.inj (e1.symm.trans hKn.2.1)
  subst ecC
  have hob : t_OB H.size ((jGD g).1 ci) N ((jGD g).2 ci) (H.push (blank ((jGD g).1 ci) kC)) V := (u_born ty hts hin hKn e2 (by rw [Array.getElem?_push_size]) hty).to (fun k hk => (hfs k hk).symm)
  have hsz : (blank ((jGD g).1 ci) kC).slots.size = n := by show (kC.instanceTypes.map defaultValue).size = n; rw [Array.size_map]; exact e4
  have hH := h1.push (c := blank ((jGD g).1 ci) kC) (e := .inr (ci, V)) ⟨_, hc, hob⟩
  rw [hsz] at hH
  have := kk H.size h1.fresh _ locs ls hH (by show _ ≤ w.2.1 + 1; omega) (by show _ ≤ w.2.2 + n; omega) h4 h5
  have a1 : w.2.1 + 1 - jGk g = w.2.1 - jGk g + 1 := by omega
  have a2 : w.2.2 + n - jGn g = w.2.2 - jGn g + n := by omega
  simp only [a1, a2] at this
  exact this
/-- a new array of a primitive type -/
def jaN (D : va_G) (t : ArrayType) (n : Nat) : jEl := match t with
  | .long => aJ D n (fun _ => 0)
  | .boolean => aZ D n (fun _ => 0)
  | _ => aI D n (fun _ => 0)
def jaT (t : ArrayType) : Option Nat := match t with
  | .int => some 0
  | .long => some 1
  | .boolean => some 2
  | _ => none
theorem j_newa (C : jX g cc nL own D) (Rm : jRm g k0 n0 rm) {at9 : ArrayType} {t n : Nat} {x : Int32} (hd : decode cc pc = .ok (.newarray at9, 2)) (ht : jaT at9 = some t) (hw : Cond.arrayClass (newarray.typeOf at9) ∈ jwd) (hx0 : ¬ x < 0) (hxn : x.toNatClampNeg = n) (hby : n * 8 ≤ 536870912) (hc1 : w.2.1 + 1 ≤ k0 + rm.cells) (hc2 : w.2.2 + n ≤ n0 + rm.slots)
    (kk : ∀ q : Nat, (∀ a e, w.1 a = some e → a < q) → JJ g (va_up w.1 q (some (jaN D at9 n)), w.2.1 + 1, w.2.2 + n) (pc + 2) L (.ref q :: st)) : JJ g w pc L (.int x :: st) := by
  obtain ⟨⟨hx, hb, hml, ho, hts, hK, -⟩, rfl, rfl, rfl, rfl⟩ := C
  obtain ⟨rfl, rfl, rfl⟩ := Rm
  subst hxn
  intro H locs ls h1 h2 h3 h4 h5
  have hcb : componentBytes (newarray.typeOf at9) ≤ 8 := by cases at9 <;> simp [newarray.typeOf, componentBytes]
  have hby2 : x.toNatClampNeg * componentBytes (newarray.typeOf at9) ≤ 536870912 := Nat.le_trans (Nat.mul_le_mul_left _ hcb) hby
  refine W.newa hx hb (hts _ hw) rfl hd rfl hx0 hby2 (by omega) (by omega) fun cA kA comp f1 f2 f3 => ?_
  have key : jAT[t]? = some (newarray.typeOf at9) ∧ ∀ D' : va_G, jaN D' at9 x.toNatClampNeg = .inl (D'.1 (100 + t), (match at9 with | .long => (x.toNatClampNeg, .inr (.inl (fun _ => 0))) | _ => (x.toNatClampNeg, .inl (fun _ => 0)) : vp_A)) ∧ vp_cell (D'.1 (100 + t)) (match at9 with | .long => (x.toNatClampNeg, .inr (.inl (fun _ => 0))) | _ => (x.toNatClampNeg, .inl (fun _ => 0)) : vp_A) = arrV (D'.1 (100 + t)) x.toNatClampNeg (fun _ => defaultValue (newarray.typeOf at9)) := by
    cases at9 <;> simp only [jaT] at ht <;> cases ht <;> exact ⟨rfl, fun _ => ⟨rfl, rfl⟩⟩
  have ecA : cA = (jGD g).1 (100 + t) := by
    obtain ⟨kA2, comp2, -, -, g3, -⟩ := hK.2.1 t _ key.1
    exact Option.some.inj (f1.symm.trans g3)
  subst ecA
  obtain ⟨key1, key2⟩ := key
  obtain ⟨key2, key3⟩ := key2 (jGD g)
  have hce : ({ cls := (jGD g).1 (100 + t), slots := Array.replicate x.toNatClampNeg (defaultValue (newarray.typeOf at9)), vm := .none } : Cell) = arrV ((jGD g).1 (100 + t)) x.toNatClampNeg (fun _ => defaultValue (newarray.typeOf at9)) := arrV_new _ _ _
  rw [hce]
  have hH := h1.push (c := arrV ((jGD g).1 (100 + t)) x.toNatClampNeg (fun _ => defaultValue (newarray.typeOf at9))) (e := jaN (jGD g) at9 x.toNatClampNeg) (by rw [key2]; show _ = some _; rw [Array.getElem?_push_size]; exact congrArg some key3.symm)
  rw [arrV_size] at hH
  have := kk H.size h1.fresh _ locs ls hH (by show _ ≤ w.2.1 + 1; omega) (by show _ ≤ w.2.2 + x.toNatClampNeg; omega) h4 h5
  have a1 : w.2.1 + 1 - jGk g = w.2.1 - jGk g + 1 := by omega
  have a2 : w.2.2 + x.toNatClampNeg - jGn g = w.2.2 - jGn g + x.toNatClampNeg := by omega
  simp only [a1, a2] at this
  exact this
theorem j_anew (C : jX g cc nL own D) (Rm : jRm g k0 n0 rm) {idx t n : Nat} {Cn : String} {x : Int32} (hd : decode cc pc = .ok (.anewarray idx, 3)) (ht : jAT[t]? = some (.object Cn)) (hao : Cn ∈ jAO) (hw : Cond.classLink own idx Cn ∈ jwd) (hx0 : ¬ x < 0) (hxn : x.toNatClampNeg = n) (hby : n * 4 ≤ 536870912) (hc1 : w.2.1 + 1 ≤ k0 + rm.cells) (hc2 : w.2.2 + n ≤ n0 + rm.slots)
    (kk : ∀ q : Nat, (∀ a e, w.1 a = some e → a < q) → JJ g (va_up w.1 q (some (aR D t n (fun _ => none))), w.2.1 + 1, w.2.2 + n) (pc + 3) L (.ref q :: st)) : JJ g w pc L (.int x :: st) := by
  obtain ⟨⟨hx, hb, hml, ho, hts, hK, -⟩, rfl, rfl, rfl, rfl⟩ := C
  obtain ⟨rfl, rfl, rfl⟩ := Rm
  subst hxn
  intro H locs ls h1 h2 h3 h4 h5
  refine W.anew hx hb ho (hts _ hw) (va_AO.use (hK.2.2.1 _ hao)) rfl hd rfl hx0 hby (by omega) (by omega) fun cA kA comp f1 f2 f3 f4 => ?_
  have ecA : cA = (jGD g).1 (100 + t) := by
    obtain ⟨kA2, comp2, -, -, g3, -⟩ := hK.2.1 t _ ht
    exact Option.some.inj (f1.symm.trans g3)
  subst ecA
  rw [show ({ cls := (jGD g).1 (100 + t), slots := Array.replicate x.toNatClampNeg .null, vm := .none } : Cell) = arrV ((jGD g).1 (100 + t)) x.toNatClampNeg (fun _ => .null) from arrV_new _ _ _]
  have hH := h1.push (c := arrV ((jGD g).1 (100 + t)) x.toNatClampNeg (fun _ => .null)) (e := aR (jGD g) t x.toNatClampNeg (fun _ => none)) (by show _ = some _; rw [Array.getElem?_push_size, vp_cell_q]; rfl)
  rw [arrV_size] at hH
  have := kk H.size h1.fresh _ locs ls hH (by show _ ≤ w.2.1 + 1; omega) (by show _ ≤ w.2.2 + x.toNatClampNeg; omega) h4 h5
  have a1 : w.2.1 + 1 - jGk g = w.2.1 - jGk g + 1 := by omega
  have a2 : w.2.2 + x.toNatClampNeg - jGn g = w.2.2 - jGn g + x.toNatClampNeg := by omega
  simp only [a1, a2] at this
  exact this
theorem j_ldc (C : jX g cc nL own D) {idx : Nat} {v : Int32} (hd : decode cc pc = .ok (.ldc idx, 2)) (hw : Cond.constant own idx v ∈ jwd) (kk : JJ g w (pc + 2) L (.int v :: st)) : JJ g w pc L st := by
  obtain ⟨⟨hx, hb, hml, ho, hts, hK, -⟩, rfl, rfl, rfl, rfl⟩ := C
  exact fun H locs ls h1 h2 h3 h4 h5 => lv_ldc hx hb ho (hts _ hw) hd (kk H locs ls h1 h2 h3 h4 h5)
theorem j_ldcw (C : jX g cc nL own D) {idx : Nat} {v : Int32} (hd : decode cc pc = .ok (.ldc_w idx, 3)) (hw : Cond.constant own idx v ∈ jwd) (kk : JJ g w (pc + 3) L (.int v :: st)) : JJ g w pc L st := by
  obtain ⟨⟨hx, hb, hml, ho, hts, hK, -⟩, rfl, rfl, rfl, rfl⟩ := C
  exact fun H locs ls h1 h2 h3 h4 h5 => lv_ldcw hx hb ho (hts _ hw) hd (kk H locs ls h1 h2 h3 h4 h5)
theorem j_ldc2 (C : jX g cc nL own D) {idx : Nat} {v : Int64} (hd : decode cc pc = .ok (.ldc2_w idx, 3)) (hw : Cond.constantLong own idx v ∈ jwd) (kk : JJ g w (pc + 3) L (.long v :: st)) : JJ g w pc L st := by
  obtain ⟨⟨hx, hb, hml, ho, hts, hK, -⟩, rfl, rfl, rfl, rfl⟩ := C
  exact fun H locs ls h1 h2 h3 h4 h5 => lv_ldc2 hx hb ho (hts _ hw) hd (kk H locs ls h1 h2 h3 h4 h5)
theorem j_if_eq (C : jX g cc nL own D) {x : Int32} {off : Int} {tgt : Nat} (hd : decode cc pc = .ok (.ifCond .eq off, 3)) (ht : (pc : Int) + off = (tgt : Int)) (kt : x = 0 → JJ g w tgt L st) (kf : ¬ (x = 0) → JJ g w (pc + 3) L st) : JJ g w pc L (.int x :: st) := by
  obtain ⟨⟨hx, hb, -⟩, rfl, -⟩ := C
  exact fun H locs ls h1 h2 h3 h4 h5 => lv_if_eq hx hb hd ht (fun h => kt h H locs ls h1 h2 h3 h4 h5) (fun h => kf h H locs ls h1 h2 h3 h4 h5)
theorem j_icmp_eq (C : jX g cc nL own D) {x y : Int32} {off : Int} {tgt : Nat} (hd : decode cc pc = .ok (.if_icmp .eq off, 3)) (ht : (pc : Int) + off = (tgt : Int)) (kt : x = y → JJ g w tgt L st) (kf : ¬ (x = y) → JJ g w (pc + 3) L st) : JJ g w pc L (.int y :: .int x :: st) := by
  obtain ⟨⟨hx, hb, -⟩, rfl, -⟩ := C
  exact fun H locs ls h1 h2 h3 h4 h5 => lv_icmp_eq hx hb hd ht (fun h => kt h H locs ls h1 h2 h3 h4 h5) (fun h => kf h H locs ls h1 h2 h3 h4 h5)
theorem j_if_ne (C : jX g cc nL own D) {x : Int32} {off : Int} {tgt : Nat} (hd : decode cc pc = .ok (.ifCond .ne off, 3)) (ht : (pc : Int) + off = (tgt : Int)) (kt : ¬ x = 0 → JJ g w tgt L st) (kf : x = 0 → JJ g w (pc + 3) L st) : JJ g w pc L (.int x :: st) := by
  obtain ⟨⟨hx, hb, -⟩, rfl, -⟩ := C
  exact fun H locs ls h1 h2 h3 h4 h5 => lv_if_ne hx hb hd ht (fun h => kt h H locs ls h1 h2 h3 h4 h5) (fun h => kf h H locs ls h1 h2 h3 h4 h5)
theorem j_icmp_ne (C : jX g cc nL own D) {x y : Int32} {off : Int} {tgt : Nat} (hd : decode cc pc = .ok (.if_icmp .ne off, 3)) (ht : (pc : Int) + off = (tgt : Int)) (kt : ¬ x = y → JJ g w tgt L st) (kf : x = y → JJ g w (pc + 3) L st) : JJ g w pc L (.int y :: .int x :: st) := by
  obtain ⟨⟨hx, hb, -⟩, rfl, -⟩ := C
  exact fun H locs ls h1 h2 h3 h4 h5 => lv_icmp_ne hx hb hd ht (fun h => kt h H locs ls h1 h2 h3 h4 h5) (fun h => kf h H locs ls h1 h2 h3 h4 h5)
theorem j_if_lt (C : jX g cc nL own D) {x : Int32} {off : Int} {tgt : Nat} (hd : decode cc pc = .ok (.ifCond .lt off, 3)) (ht : (pc : Int) + off = (tgt : Int)) (kt : x < 0 → JJ g w tgt L st) (kf : ¬ (x < 0) → JJ g w (pc + 3) L st) : JJ g w pc L (.int x :: st) := by
  obtain ⟨⟨hx, hb, -⟩, rfl, -⟩ := C
  exact fun H locs ls h1 h2 h3 h4 h5 => lv_if_lt hx hb hd ht (fun h => kt h H locs ls h1 h2 h3 h4 h5) (fun h => kf h H locs ls h1 h2 h3 h4 h5)
theorem j_icmp_lt (C : jX g cc nL own D) {x y : Int32} {off : Int} {tgt : Nat} (hd : decode cc pc = .ok (.if_icmp .lt off, 3)) (ht : (pc : Int) + off = (tgt : Int)) (kt : x < y → JJ g w tgt L st) (kf : ¬ (x < y) → JJ g w (pc + 3) L st) : JJ g w pc L (.int y :: .int x :: st) := by
  obtain ⟨⟨hx, hb, -⟩, rfl, -⟩ := C
  exact fun H locs ls h1 h2 h3 h4 h5 => lv_icmp_lt hx hb hd ht (fun h => kt h H locs ls h1 h2 h3 h4 h5) (fun h => kf h H locs ls h1 h2 h3 h4 h5)
theorem j_if_ge (C : jX g cc nL own D) {x : Int32} {off : Int} {tgt : Nat} (hd : decode cc pc = .ok (.ifCond .ge off, 3)) (ht : (pc : Int) + off = (tgt : Int)) (kt : 0 ≤ x → JJ g w tgt L st) (kf : ¬ (0 ≤ x) → JJ g w (pc + 3) L st) : JJ g w pc L (.int x :: st) := by
  obtain ⟨⟨hx, hb, -⟩, rfl, -⟩ := C
  exact fun H locs ls h1 h2 h3 h4 h5 => lv_if_ge hx hb hd ht (fun h => kt h H locs ls h1 h2 h3 h4 h5) (fun h => kf h H locs ls h1 h2 h3 h4 h5)
theorem j_icmp_ge (C : jX g cc nL own D) {x y : Int32} {off : Int} {tgt : Nat} (hd : decode cc pc = .ok (.if_icmp .ge off, 3)) (ht : (pc : Int) + off = (tgt : Int)) (kt : y ≤ x → JJ g w tgt L st) (kf : ¬ (y ≤ x) → JJ g w (pc + 3) L st) : JJ g w pc L (.int y :: .int x :: st) := by
  obtain ⟨⟨hx, hb, -⟩, rfl, -⟩ := C
  exact fun H locs ls h1 h2 h3 h4 h5 => lv_icmp_ge hx hb hd ht (fun h => kt h H locs ls h1 h2 h3 h4 h5) (fun h => kf h H locs ls h1 h2 h3 h4 h5)
theorem j_if_gt (C : jX g cc nL own D) {x : Int32} {off : Int} {tgt : Nat} (hd : decode cc pc = .ok (.ifCond .gt off, 3)) (ht : (pc : Int) + off = (tgt : Int)) (kt : 0 < x → JJ g w tgt L st) (kf : ¬ (0 < x) → JJ g w (pc + 3) L st) : JJ g w pc L (.int x :: st) := by
  obtain ⟨⟨hx, hb, -⟩, rfl, -⟩ := C
  exact fun H locs ls h1 h2 h3 h4 h5 => lv_if_gt hx hb hd ht (fun h => kt h H locs ls h1 h2 h3 h4 h5) (fun h => kf h H locs ls h1 h2 h3 h4 h5)
theorem j_icmp_gt (C : jX g cc nL own D) {x y : Int32} {off : Int} {tgt : Nat} (hd : decode cc pc = .ok (.if_icmp .gt off, 3)) (ht : (pc : Int) + off = (tgt : Int)) (kt : y < x → JJ g w tgt L st) (kf : ¬ (y < x) → JJ g w (pc + 3) L st) : JJ g w pc L (.int y :: .int x :: st) := by
  obtain ⟨⟨hx, hb, -⟩, rfl, -⟩ := C
  exact fun H locs ls h1 h2 h3 h4 h5 => lv_icmp_gt hx hb hd ht (fun h => kt h H locs ls h1 h2 h3 h4 h5) (fun h => kf h H locs ls h1 h2 h3 h4 h5)
theorem j_if_le (C : jX g cc nL own D) {x : Int32} {off : Int} {tgt : Nat} (hd : decode cc pc = .ok (.ifCond .le off, 3)) (ht : (pc : Int) + off = (tgt : Int)) (kt : x ≤ 0 → JJ g w tgt L st) (kf : ¬ (x ≤ 0) → JJ g w (pc + 3) L st) : JJ g w pc L (.int x :: st) := by
  obtain ⟨⟨hx, hb, -⟩, rfl, -⟩ := C
  exact fun H locs ls h1 h2 h3 h4 h5 => lv_if_le hx hb hd ht (fun h => kt h H locs ls h1 h2 h3 h4 h5) (fun h => kf h H locs ls h1 h2 h3 h4 h5)
theorem j_icmp_le (C : jX g cc nL own D) {x y : Int32} {off : Int} {tgt : Nat} (hd : decode cc pc = .ok (.if_icmp .le off, 3)) (ht : (pc : Int) + off = (tgt : Int)) (kt : x ≤ y → JJ g w tgt L st) (kf : ¬ (x ≤ y) → JJ g w (pc + 3) L st) : JJ g w pc L (.int y :: .int x :: st) := by
  obtain ⟨⟨hx, hb, -⟩, rfl, -⟩ := C
  exact fun H locs ls h1 h2 h3 h4 h5 => lv_icmp_le hx hb hd ht (fun h => kt h H locs ls h1 h2 h3 h4 h5) (fun h => kf h H locs ls h1 h2 h3 h4 h5)
theorem j_ifnull (C : jX g cc nL own D) {a : Nat} {off : Int} (hd : decode cc pc = .ok (.ifnull off, 3)) (kk : JJ g w (pc + 3) L st) : JJ g w pc L (.ref a :: st) := by
  obtain ⟨⟨hx, hb, -⟩, rfl, -⟩ := C
  exact fun H locs ls h1 h2 h3 h4 h5 => lv_ifnull hx hb hd (kk H locs ls h1 h2 h3 h4 h5)
theorem j_ifnullN (C : jX g cc nL own D) {off : Int} {tgt : Nat} (hd : decode cc pc = .ok (.ifnull off, 3)) (ht : (pc : Int) + off = (tgt : Int)) (kk : JJ g w tgt L st) : JJ g w pc L (.null :: st) := by
  obtain ⟨⟨hx, hb, -⟩, rfl, -⟩ := C
  exact fun H locs ls h1 h2 h3 h4 h5 => lv_ifnullN hx hb hd ht (kk H locs ls h1 h2 h3 h4 h5)
theorem j_ifnonnull (C : jX g cc nL own D) {a : Nat} {off : Int} {tgt : Nat} (hd : decode cc pc = .ok (.ifnonnull off, 3)) (ht : (pc : Int) + off = (tgt : Int)) (kk : JJ g w tgt L st) : JJ g w pc L (.ref a :: st) := by
  obtain ⟨⟨hx, hb, -⟩, rfl, -⟩ := C
  exact fun H locs ls h1 h2 h3 h4 h5 => lv_ifnonnull hx hb hd ht (kk H locs ls h1 h2 h3 h4 h5)
theorem j_ifnonnullN (C : jX g cc nL own D) {off : Int} (hd : decode cc pc = .ok (.ifnonnull off, 3)) (kk : JJ g w (pc + 3) L st) : JJ g w pc L (.null :: st) := by
  obtain ⟨⟨hx, hb, -⟩, rfl, -⟩ := C
  exact fun H locs ls h1 h2 h3 h4 h5 => lv_ifnonnullN hx hb hd (kk H locs ls h1 h2 h3 h4 h5)
theorem j_tabIn (C : jX g cc nL own D) {dflt lo hi : Int} {offs : Array Int} {len : Nat} {x : Int32} {off : Int} {tgt : Nat} (hd : decode cc pc = .ok (.tableswitch dflt lo hi offs, len)) (q1 : ¬ x.toInt < lo) (q2 : ¬ hi < x.toInt) (ho : offs[(x.toInt - lo).toNat]? = some off) (ht : (pc : Int) + off = (tgt : Int)) (kk : JJ g w tgt L st) : JJ g w pc L (.int x :: st) := by
  obtain ⟨⟨hx, hb, -⟩, rfl, -⟩ := C
  exact fun H locs ls h1 h2 h3 h4 h5 => lv_tableIn hx hb hd q1 q2 ho ht (kk H locs ls h1 h2 h3 h4 h5)
theorem j_tabOut (C : jX g cc nL own D) {dflt lo hi : Int} {offs : Array Int} {len : Nat} {x : Int32} {tgt : Nat} (hd : decode cc pc = .ok (.tableswitch dflt lo hi offs, len)) (q : x.toInt < lo ∨ hi < x.toInt) (ht : (pc : Int) + dflt = (tgt : Int)) (kk : JJ g w tgt L st) : JJ g w pc L (.int x :: st) := by
  obtain ⟨⟨hx, hb, -⟩, rfl, -⟩ := C
  exact fun H locs ls h1 h2 h3 h4 h5 => lv_tableOut hx hb hd q ht (kk H locs ls h1 h2 h3 h4 h5)
theorem j_idiv (C : jX g cc nL own D) {x y : Int32} (hd : decode cc pc = .ok (.idiv, 1)) (hne : ¬ y = 0) (kk : JJ g w (pc + 1) L (.int (x / y) :: st)) : JJ g w pc L (.int y :: .int x :: st) := by
  obtain ⟨⟨hx, hb, -⟩, rfl, -⟩ := C
  exact fun H locs ls h1 h2 h3 h4 h5 => lv_idiv hx hb hd hne (kk H locs ls h1 h2 h3 h4 h5)
theorem j_irem (C : jX g cc nL own D) {x y : Int32} (hd : decode cc pc = .ok (.irem, 1)) (hne : ¬ y = 0) (kk : JJ g w (pc + 1) L (.int (x - x / y * y) :: st)) : JJ g w pc L (.int y :: .int x :: st) := by
  obtain ⟨⟨hx, hb, -⟩, rfl, -⟩ := C
  exact fun H locs ls h1 h2 h3 h4 h5 => lv_irem hx hb hd hne (kk H locs ls h1 h2 h3 h4 h5)
theorem j_ldiv (C : jX g cc nL own D) {x y : Int64} (hd : decode cc pc = .ok (.ldiv, 1)) (hne : ¬ y = 0) (kk : JJ g w (pc + 1) L (.long (x / y) :: st)) : JJ g w pc L (.long y :: .long x :: st) := by
  obtain ⟨⟨hx, hb, -⟩, rfl, -⟩ := C
  exact fun H locs ls h1 h2 h3 h4 h5 => lv_ldiv hx hb hd hne (kk H locs ls h1 h2 h3 h4 h5)
theorem j_lrem (C : jX g cc nL own D) {x y : Int64} (hd : decode cc pc = .ok (.lrem, 1)) (hne : ¬ y = 0) (kk : JJ g w (pc + 1) L (.long (x - x / y * y) :: st)) : JJ g w pc L (.long y :: .long x :: st) := by
  obtain ⟨⟨hx, hb, -⟩, rfl, -⟩ := C
  exact fun H locs ls h1 h2 h3 h4 h5 => lv_lrem hx hb hd hne (kk H locs ls h1 h2 h3 h4 h5)
end JN
