/-! THE J LAYER: multianewarray (own work) -/
section GST
variable {p : Program} {l : Launch} {e : Env} {R : Room} {s : State} {m : MethodId} {args : Array Value} {below : List Frame} {meth : Method} {c : Code} {T : State} {locs : List Loc} {cells slots : Nat}
theorem g_fill2 (X : Stand p l e R s m args below meth c T locs cells slots) (cA ci : ClassId) (n k : Nat) (dv : Value) : ∀ i, Stand p l e R s m args below meth c (f2S T cA ci n k dv i) (locs ++ (List.range i).map fun j => ⟨T.heap.size, j⟩) (cells + 1 + i) (slots + n + i * k)
  | 0 => by
    have h := X.pushed (gOC cA n (fun j => T.heap.size + 1 + j) 0)
    rw [gOC_sz] at h
    simpa [f2S] using h
  | i + 1 => by
    have Xi := g_fill2 X cA ci n k dv i
    obtain ⟨f1, f2, f3, f4⟩ := f2S_facts T cA ci n k dv i
    have hlt0 : T.heap.size < (f2S T cA ci n k dv i).heap.size := by rw [f1]; omega
    have hcell : ((f2S T cA ci n k dv i).pushCell (g1C ci k dv)).heap[T.heap.size]? = some (gOC cA n (fun j => T.heap.size + 1 + j) i) := by rw [State.heap_pushCell_of_lt (h := hlt0)]; exact f2
    have h := (Xi.pushed (g1C ci k dv)).stored hcell i (.ref (T.heap.size + 1 + i))
    rw [gOC_step cA n (fun j => T.heap.size + 1 + j) i] at h
    have e1 : (g1C ci k dv).slots.size = k := by simp [g1C]
    rw [e1] at h
    have e2 : (locs ++ (List.range (i + 1)).map fun j => (⟨T.heap.size, j⟩ : Loc)) = (locs ++ (List.range i).map fun j => (⟨T.heap.size, j⟩ : Loc)) ++ [⟨T.heap.size, i⟩] := by simp [List.range_succ, List.append_assoc]
    have e3 : slots + n + (i + 1) * k = slots + n + i * k + k := by rw [Nat.succ_mul]; omega
    rw [e2, e3]
    exact h
theorem g_fill3 (X : Stand p l e R s m args below meth c T locs cells slots) {B : Nat} (hB : B ≤ T.heap.size) (hl : ∀ q ∈ locs, B ≤ q.base) (cA cm ci : ClassId) (n m9 k : Nat) (dv : Value) : ∀ i, ∃ L : List Loc, (∀ q ∈ L, B ≤ q.base) ∧ Stand p l e R s m args below meth c (f3S T cA cm ci n m9 k dv i) L (cells + 1 + i * (m9 + 1)) (slots + n + i * (m9 + m9 * k))
  | 0 => by
    have h := X.pushed (gOC cA n (fun j => T.heap.size + 1 + j * (m9 + 1)) 0)
    rw [gOC_sz] at h
    exact ⟨locs, hl, by simpa [f3S] using h⟩
  | i + 1 => by
    obtain ⟨L, hL, Xi⟩ := g_fill3 X hB hl cA cm ci n m9 k dv i
    obtain ⟨f1, f2, f3, f4⟩ := f3S_facts T cA cm ci n m9 k dv i
    have hlt0 : T.heap.size < (f3S T cA cm ci n m9 k dv i).heap.size := by rw [f1]; omega
    have X2 := g_fill2 Xi cm ci m9 k dv m9
    have hcell : (f2S (f3S T cA cm ci n m9 k dv i) cm ci m9 k dv m9).heap[T.heap.size]? = some (gOC cA n (fun j => T.heap.size + 1 + j * (m9 + 1)) i) := by rw [f2S_old _ _ _ _ _ _ hlt0]; exact f2
    have h := X2.stored hcell i (.ref (T.heap.size + 1 + i * (m9 + 1)))
    rw [gOC_step cA n (fun j => T.heap.size + 1 + j * (m9 + 1)) i] at h
    have e1 : cells + 1 + i * (m9 + 1) + 1 + m9 = cells + 1 + (i + 1) * (m9 + 1) := by rw [Nat.succ_mul]; omega
    have e3 : slots + n + i * (m9 + m9 * k) + m9 + m9 * k = slots + n + (i + 1) * (m9 + m9 * k) := by rw [Nat.succ_mul]; omega
    rw [e1, e3] at h
    refine ⟨_, fun q hq => ?_, h⟩
    rcases List.mem_append.mp hq with h1 | h1
    · rcases List.mem_append.mp h1 with h2 | h2
      · exact hL q h2
      · obtain ⟨j, -, rfl⟩ := List.mem_map.mp h2
        show B ≤ (f3S T cA cm ci n m9 k dv i).heap.size
        rw [f1]
        omega
    · rw [List.mem_singleton] at h1; subst h1; exact hB
theorem jslots {D : va_G} {B k0 n0 : Nat} {H0 : Heap} {M0 : jM} (X : Stand p l e R s m args below meth c T locs cells slots) (h0 : jH D B H0 (M0, k0, n0) s.heap) (hB : B ≤ T.heap.size) : T.slotsUsed + n0 = s.slotsUsed + jsum T.heap B := by
  obtain ⟨e1, e2, e3, e4, e5, e6⟩ := X.same
  have e2 : s.heap.size ≤ T.heap.size := e2
  have hs0 : s.heap.size = B + k0 := h0.1
  have hj0 : jsum s.heap B = n0 := h0.2.1
  have hold : ((T.heap.toList.drop B).take k0).map (fun c : Cell => c.slots.size) = (s.heap.toList.drop B).map (fun c : Cell => c.slots.size) := by
    apply List.ext_getElem?
    intro i
    rw [List.getElem?_map, List.getElem?_map, List.getElem?_take, List.getElem?_drop, List.getElem?_drop, Array.getElem?_toList, Array.getElem?_toList]
    by_cases hi : i < k0
    · rw [if_pos hi]
      have hlt : B + i < s.heap.size := by omega
      obtain ⟨c', q1, -, q3, -⟩ := e6 (B + i) s.heap[B + i] (Array.getElem?_eq_getElem hlt)
      have q1 : T.heap[B + i]? = some c' := q1
      rw [q1, Array.getElem?_eq_getElem hlt]
      simp [q3]
    · rw [if_neg hi]
      have : s.heap[B + i]? = none := Array.getElem?_eq_none (by omega)
      rw [this]
  have hsp := jsum_split (H := T.heap) (B := B) (k := k0)
  have hj0' : ((s.heap.toList.drop B).map (fun c : Cell => c.slots.size)).sum = n0 := hj0
  rw [hold, hj0', ← hs0] at hsp
  have e4 : T.slotsUsed = s.slotsUsed + jsum T.heap s.heap.size := e4
  omega
/-- the instruction, two deep -/
theorem g_mn2 (X : Stand p l e R s m args below meth c T locs cells slots) (hexec : p.tables.exec = Jvm.exec) {own nm : String} {index : Nat} {ty : FieldType} {cA comp cc : ClassId} {kA kC : Class}
    (hown : s.vm.findClass own = some m.cls) (hclink : (Cond.classLink own index nm).before args s = true) (hname : s.vm.findClass nm = some cA)
    (hkA : s.vm.classes[cA]? = some kA) (hkindA : kA.kind = .array comp (.array ty)) (hkC : s.vm.classes[comp]? = some kC) (hkindC : kC.kind = .array cc ty)
    {g : JFrame} (hg : g.method = m) (hdg : decode c.code g.pc = .ok (.multianewarray index 2, 4)) {n k : Int32} {rest : List Value} (hstack : g.stack = .int k :: .int n :: rest)
    (hn : ¬ n < 0) (hk : ¬ k < 0) (hb1 : n.toNatClampNeg ≤ 65536) (hb2 : k.toNatClampNeg ≤ 65536)
    (hdf : fits ty (defaultValue ty) = true) (hdd : (defaultValue ty).isDefault = true)
    (hcells : cells + (1 + n.toNatClampNeg) ≤ R.cells) (hslots : slots + (n.toNatClampNeg + n.toNatClampNeg * k.toNatClampNeg) ≤ R.slots) :
    ∃ vm₁ : Vm, s.WarmedH vm₁ ∧ Stand p l e R s m args below meth c (T.setVm vm₁) locs cells slots ∧
      Stand p l e R s m args below meth c (f2S (T.setVm vm₁) cA comp n.toNatClampNeg k.toNatClampNeg (defaultValue ty) n.toNatClampNeg) (locs ++ (List.range n.toNatClampNeg).map fun j => ⟨T.heap.size, j⟩) (cells + 1 + n.toNatClampNeg) (slots + n.toNatClampNeg + n.toNatClampNeg * k.toNatClampNeg) ∧
      ∀ target, Steps p.tables e below ((f2S (T.setVm vm₁) cA comp n.toNatClampNeg k.toNatClampNeg (defaultValue ty) n.toNatClampNeg).setTop { g with pc := g.pc + 4, stack := .ref T.heap.size :: rest }) target → Steps p.tables e below (T.setTop g) target := by
  subst hg
  have hpl : e.platform.magicAccessors = ({} : Platform).magicAccessors := by rw [X.admits.platform]
  obtain ⟨c0, hfc0, hcl⟩ := Cond.classLink_spec hown hclink e.platform hpl
  cases hname.symm.trans hfc0
  obtain ⟨hg₁, hwarm₁, hready₁⟩ := State.classEntry (e := e) X.warmed hcl
  generalize T.vm.noted g.method.cls index (.cls cA) = vm₁ at hg₁ hwarm₁ hready₁
  have hal : s.vm.Alike vm₁ := hwarm₁.alike
  obtain ⟨kA₁, hkA₁, heA⟩ := hal.2.2 _ _ hkA
  obtain ⟨kC₁, hkC₁, heC⟩ := hal.2.2 _ _ hkC
  have hkindA₁ : kA₁.kind = .array comp (.array ty) := by rw [heA]; exact hkindA
  have hkindC₁ : kC₁.kind = .array cc ty := by rw [heC]; exact hkindC
  have X₁ := X.noted hwarm₁
  obtain ⟨hr1, hr2⟩ := X.roomAbove hcells hslots
  have hcb : componentBytes ty ≤ 8 := by cases ty <;> simp [componentBytes]
  have hkb : k.toNatClampNeg * componentBytes ty ≤ 65536 * 8 := Nat.mul_le_mul hb2 hcb
  refine ⟨vm₁, hwarm₁, X₁, g_fill2 X₁ cA comp _ _ _ _, fun target hrest => ?_⟩
  have hl1 : ¬ n.toNatClampNeg > e.platform.arrayLengthLimit := by rw [Launch.admits_arrayLengthLimit X.admits]; omega
  have hh1 : ¬ n.toNatClampNeg * componentBytes (.array ty) > e.platform.maxHeapBytes := by
    rw [Launch.admits_maxHeapBytes X.admits]; show ¬ n.toNatClampNeg * 4 > 536870912; omega
  have hl2 : ¬ k.toNatClampNeg > e.platform.arrayLengthLimit := by rw [Launch.admits_arrayLengthLimit X.admits]; omega
  have hh2 : ¬ k.toNatClampNeg * componentBytes ty > e.platform.maxHeapBytes := by rw [Launch.admits_maxHeapBytes X.admits]; omega
  jvm_step X.here [hexec, hdg]
  simp only [multianewarray.sem, wp_bind', W.resolveClassAt_links (State.method?_setTop g X.here.top) hg₁]
  rw [W.popN, if_neg (by decide)]
  refine ⟨g, State.topJava?_setTop' (s := T.setVm vm₁) g X.here.top, [.int n, .int k], rest, rfl, hstack, ?_⟩
  simp only [List.mapM_cons, List.mapM_nil, wp_bind', wp_pure']
  refine g_make2 (k := kA₁) (kc := kC₁) (comp := comp) (cc := cc) (t0 := .array ty) (type := ty) hkA₁ hkindA₁ rfl hkC₁ hkindC₁ hn hk hl1 hh1 hl2 hh2 hdf hdd (by show T.heap.size + 1 + _ ≤ _; omega) (by show T.slotsUsed + _ + _ ≤ _; omega) (fun d' acts' => ?_)
  have XF := g_fill2 X₁ cA comp n.toNatClampNeg k.toNatClampNeg (defaultValue ty) n.toNatClampNeg
  have eS : ((T.setTop g).setVm vm₁).setTop { g with stack := rest } = (T.setVm vm₁).setTop { g with stack := rest } := by
    show ((T.setVm vm₁).setTop g).setTop _ = _
    rw [State.setTop_setTop]
  rw [eS, f2S_top]
  simp only [wp_bind', W.mark, W.pushRef, State.topJava?_setTop' _ XF.here.top, Option.some.injEq, exists_eq_left', State.setTop_setTop, State.heap_setTop]
  intro acts
  simp [jvm, XF.here.top]
  exact hrest
/-- the instruction, three deep -/
theorem g_mn3 (X : Stand p l e R s m args below meth c T locs cells slots) {B : Nat} (hB : B ≤ T.heap.size) (hlocs : ∀ q ∈ locs, B ≤ q.base) (hexec : p.tables.exec = Jvm.exec) {own nm : String} {index : Nat} {t0 ty : FieldType} {cA cm comp cc : ClassId} {kA kM kC : Class}
    (hown : s.vm.findClass own = some m.cls) (hclink : (Cond.classLink own index nm).before args s = true) (hname : s.vm.findClass nm = some cA)
    (hkA : s.vm.classes[cA]? = some kA) (hkindA : kA.kind = .array cm (.array t0)) (hkM : s.vm.classes[cm]? = some kM) (hkindM : kM.kind = .array comp (.array ty)) (hkC : s.vm.classes[comp]? = some kC) (hkindC : kC.kind = .array cc ty)
    {g : JFrame} (hg : g.method = m) (hdg : decode c.code g.pc = .ok (.multianewarray index 3, 4)) {n k r : Int32} {rest : List Value} (hstack : g.stack = .int r :: .int k :: .int n :: rest)
    (hn : ¬ n < 0) (hk : ¬ k < 0) (hr : ¬ r < 0) (hb1 : n.toNatClampNeg ≤ 65536) (hb2 : k.toNatClampNeg ≤ 65536) (hb3 : r.toNatClampNeg ≤ 65536)
    (hdf : fits ty (defaultValue ty) = true) (hdd : (defaultValue ty).isDefault = true)
    (hcells : cells + (1 + n.toNatClampNeg * (k.toNatClampNeg + 1)) ≤ R.cells) (hslots : slots + (n.toNatClampNeg + n.toNatClampNeg * (k.toNatClampNeg + k.toNatClampNeg * r.toNatClampNeg)) ≤ R.slots) :
    ∃ (vm₁ : Vm) (L : List Loc), s.WarmedH vm₁ ∧ Stand p l e R s m args below meth c (T.setVm vm₁) locs cells slots ∧ (∀ q ∈ L, B ≤ q.base) ∧
      Stand p l e R s m args below meth c (f3S (T.setVm vm₁) cA cm comp n.toNatClampNeg k.toNatClampNeg r.toNatClampNeg (defaultValue ty) n.toNatClampNeg) L (cells + 1 + n.toNatClampNeg * (k.toNatClampNeg + 1)) (slots + n.toNatClampNeg + n.toNatClampNeg * (k.toNatClampNeg + k.toNatClampNeg * r.toNatClampNeg)) ∧
      ∀ target, Steps p.tables e below ((f3S (T.setVm vm₁) cA cm comp n.toNatClampNeg k.toNatClampNeg r.toNatClampNeg (defaultValue ty) n.toNatClampNeg).setTop { g with pc := g.pc + 4, stack := .ref T.heap.size :: rest }) target → Steps p.tables e below (T.setTop g) target := by
  subst hg
  have hpl : e.platform.magicAccessors = ({} : Platform).magicAccessors := by rw [X.admits.platform]
  obtain ⟨c0, hfc0, hcl⟩ := Cond.classLink_spec hown hclink e.platform hpl
  cases hname.symm.trans hfc0
  obtain ⟨hg₁, hwarm₁, hready₁⟩ := State.classEntry (e := e) X.warmed hcl
  generalize T.vm.noted g.method.cls index (.cls cA) = vm₁ at hg₁ hwarm₁ hready₁
  have hal : s.vm.Alike vm₁ := hwarm₁.alike
  obtain ⟨kA₁, hkA₁, heA⟩ := hal.2.2 _ _ hkA
  obtain ⟨kM₁, hkM₁, heM⟩ := hal.2.2 _ _ hkM
  obtain ⟨kC₁, hkC₁, heC⟩ := hal.2.2 _ _ hkC
  have hkindA₁ : kA₁.kind = .array cm (.array t0) := by rw [heA]; exact hkindA
  have hkindM₁ : kM₁.kind = .array comp (.array ty) := by rw [heM]; exact hkindM
  have hkindC₁ : kC₁.kind = .array cc ty := by rw [heC]; exact hkindC
  have X₁ := X.noted hwarm₁
  obtain ⟨hr1, hr2⟩ := X.roomAbove hcells hslots
  have hcb : componentBytes ty ≤ 8 := by cases ty <;> simp [componentBytes]
  have hkb : r.toNatClampNeg * componentBytes ty ≤ 65536 * 8 := Nat.mul_le_mul hb3 hcb
  obtain ⟨L, hL, XF⟩ := g_fill3 X₁ hB hlocs cA cm comp n.toNatClampNeg k.toNatClampNeg r.toNatClampNeg (defaultValue ty) n.toNatClampNeg
  refine ⟨vm₁, L, hwarm₁, X₁, hL, XF, fun target hrest => ?_⟩
  have hl1 : ¬ n.toNatClampNeg > e.platform.arrayLengthLimit := by rw [Launch.admits_arrayLengthLimit X.admits]; omega
  have hh1 : ¬ n.toNatClampNeg * componentBytes (.array t0) > e.platform.maxHeapBytes := by
    rw [Launch.admits_maxHeapBytes X.admits]; show ¬ n.toNatClampNeg * 4 > 536870912; omega
  have hl2 : ¬ k.toNatClampNeg > e.platform.arrayLengthLimit := by rw [Launch.admits_arrayLengthLimit X.admits]; omega
  have hh2 : ¬ k.toNatClampNeg * componentBytes (.array ty) > e.platform.maxHeapBytes := by
    rw [Launch.admits_maxHeapBytes X.admits]; show ¬ k.toNatClampNeg * 4 > 536870912; omega
  have hl3 : ¬ r.toNatClampNeg > e.platform.arrayLengthLimit := by rw [Launch.admits_arrayLengthLimit X.admits]; omega
  have hh3 : ¬ r.toNatClampNeg * componentBytes ty > e.platform.maxHeapBytes := by rw [Launch.admits_maxHeapBytes X.admits]; omega
  jvm_step X.here [hexec, hdg]
  simp only [multianewarray.sem, wp_bind', W.resolveClassAt_links (State.method?_setTop g X.here.top) hg₁]
  rw [W.popN, if_neg (by decide)]
  refine ⟨g, State.topJava?_setTop' (s := T.setVm vm₁) g X.here.top, [.int n, .int k, .int r], rest, rfl, hstack, ?_⟩
  simp only [List.mapM_cons, List.mapM_nil, wp_bind', wp_pure']
  refine g_make3 (k := kA₁) (km := kM₁) (kc := kC₁) (cm := cm) (ci := comp) (cc := cc) (t0 := .array t0) (t1 := .array ty) (type := ty) hkA₁ hkindA₁ rfl hkM₁ hkindM₁ rfl hkC₁ hkindC₁ hn hk hr hl1 hh1 hl2 hh2 hl3 hh3 hdf hdd (by show T.heap.size + 1 + _ ≤ _; omega) (by show T.slotsUsed + _ + _ ≤ _; omega) (fun d' acts' => ?_)
  have eS : ((T.setTop g).setVm vm₁).setTop { g with stack := rest } = (T.setVm vm₁).setTop { g with stack := rest } := by
    show ((T.setVm vm₁).setTop g).setTop _ = _
    rw [State.setTop_setTop]
  rw [eS, f3S_top]
  simp only [wp_bind', W.mark, W.pushRef, State.topJava?_setTop' _ XF.here.top, Option.some.injEq, exists_eq_left', State.setTop_setTop, State.heap_setTop]
  intro acts
  simp [jvm, XF.here.top]
  exact hrest
end GST
