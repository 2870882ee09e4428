/-! THE J LAYER: arrays of arrays, two and three deep (own work) -/
def g1C (c : ClassId) (n : Nat) (dv : Value) : Cell := { cls := c, slots := Array.replicate n dv, vm := .none }
def gOC (c : ClassId) (n : Nat) (ad : Nat → Nat) (i : Nat) : Cell := arrV c n (fun j => if j < i then .ref (ad j) else .null)
theorem gOC_step (c : ClassId) (n : Nat) (ad : Nat → Nat) (i : Nat) : (gOC c n ad i).setSlot i (.ref (ad i)) = gOC c n ad (i + 1) := by
  unfold gOC
  rw [arrV_store]
  refine congrArg (arrV c n) (funext fun j => ?_)
  by_cases e : j = i
  · subst e; simp [updV]
  · by_cases h : j < i
    · simp [updV, e, h, Nat.lt_succ_of_lt h]
    · simp [updV, e, h, show ¬ j < i + 1 by omega]
theorem gOC_0 (c : ClassId) (n : Nat) (ad : Nat → Nat) : ({ cls := c, slots := Array.replicate n .null, vm := .none } : Cell) = gOC c n ad 0 := by
  unfold gOC
  rw [arrV_new]
  refine congrArg (arrV c n) (funext fun j => ?_)
  simp
theorem gOC_sz (c : ClassId) (n : Nat) (ad : Nat → Nat) (i : Nat) : (gOC c n ad i).slots.size = n := arrV_size _ _ _
def f2S (s : State) (c ci : ClassId) (n k : Nat) (dv : Value) : Nat → State
  | 0 => s.pushCell (gOC c n (fun j => s.heap.size + 1 + j) 0)
  | i + 1 => ((f2S s c ci n k dv i).pushCell (g1C ci k dv)).setCell s.heap.size (gOC c n (fun j => s.heap.size + 1 + j) (i + 1))
theorem f2S_facts (s : State) (c ci : ClassId) (n k : Nat) (dv : Value) : ∀ i, (f2S s c ci n k dv i).heap.size = s.heap.size + 1 + i ∧ (f2S s c ci n k dv i).heap[s.heap.size]? = some (gOC c n (fun j => s.heap.size + 1 + j) i) ∧ (f2S s c ci n k dv i).vm = s.vm ∧ (f2S s c ci n k dv i).slotsUsed = s.slotsUsed + n + i * k
  | 0 => ⟨by simp [f2S], by simp [f2S], rfl, by simp [f2S, gOC_sz]⟩
  | i + 1 => by
    obtain ⟨a, b, d, u⟩ := f2S_facts s c ci n k dv i
    have hlt : s.heap.size < (f2S s c ci n k dv i).heap.size := by omega
    have hb' : ((f2S s c ci n k dv i).pushCell (g1C ci k dv)).heap[s.heap.size]? = some (gOC c n (fun j => s.heap.size + 1 + j) i) := by rw [State.heap_pushCell_of_lt (h := hlt)]; exact b
    refine ⟨?_, State.heap_setCell_self hb', by simp [f2S, d], ?_⟩
    · simp [f2S, State.setCell, a]; omega
    · simp [f2S, u, g1C, Nat.succ_mul]; omega
theorem f2S_old (s : State) (c ci : ClassId) (n k : Nat) (dv : Value) {a : Nat} (ha : a < s.heap.size) : ∀ i, (f2S s c ci n k dv i).heap[a]? = s.heap[a]?
  | 0 => State.heap_pushCell_of_lt _ _ ha
  | i + 1 => by
    have f1 := (f2S_facts s c ci n k dv i).1
    show (((f2S s c ci n k dv i).pushCell (g1C ci k dv)).setCell s.heap.size _).heap[a]? = _
    rw [State.heap_setCell_other (Nat.ne_of_gt ha), State.heap_pushCell_of_lt (h := show a < (f2S s c ci n k dv i).heap.size by rw [f1]; have : a < s.heap.size := ha; omega)]
    exact f2S_old s c ci n k dv ha i
theorem f2S_in (s : State) (c ci : ClassId) (n k : Nat) (dv : Value) : ∀ i j, j < i → (f2S s c ci n k dv i).heap[s.heap.size + 1 + j]? = some (g1C ci k dv)
  | 0, _, h => absurd h (Nat.not_lt_zero _)
  | i + 1, j, h => by
    have f1 := (f2S_facts s c ci n k dv i).1
    show (((f2S s c ci n k dv i).pushCell (g1C ci k dv)).setCell s.heap.size _).heap[s.heap.size + 1 + j]? = _
    rw [State.heap_setCell_other (show s.heap.size ≠ s.heap.size + 1 + j by omega)]
    rcases Nat.lt_or_ge j i with hj | hj
    · rw [State.heap_pushCell_of_lt (h := show s.heap.size + 1 + j < (f2S s c ci n k dv i).heap.size by omega)]
      exact f2S_in s c ci n k dv i j hj
    · have hji : j = i := by omega
      subst hji
      show ((f2S s c ci n k dv j).heap.push _)[_]? = _
      rw [← f1, Array.getElem?_push_size]
theorem f2S_top (s : State) (f : JFrame) (c ci : ClassId) (n k : Nat) (dv : Value) : ∀ i, f2S (s.setTop f) c ci n k dv i = (f2S s c ci n k dv i).setTop f
  | 0 => rfl
  | i + 1 => by simp only [f2S, f2S_top s f c ci n k dv i, State.heap_setTop, State.pushCell_setTop, State.setCell_setTop]
def f3S (s : State) (c cm ci : ClassId) (n m k : Nat) (dv : Value) : Nat → State
  | 0 => s.pushCell (gOC c n (fun j => s.heap.size + 1 + j * (m + 1)) 0)
  | i + 1 => (f2S (f3S s c cm ci n m k dv i) cm ci m k dv m).setCell s.heap.size (gOC c n (fun j => s.heap.size + 1 + j * (m + 1)) (i + 1))
theorem f3S_facts (s : State) (c cm ci : ClassId) (n m k : Nat) (dv : Value) : ∀ i, (f3S s c cm ci n m k dv i).heap.size = s.heap.size + 1 + i * (m + 1) ∧ (f3S s c cm ci n m k dv i).heap[s.heap.size]? = some (gOC c n (fun j => s.heap.size + 1 + j * (m + 1)) i) ∧ (f3S s c cm ci n m k dv i).vm = s.vm ∧ (f3S s c cm ci n m k dv i).slotsUsed = s.slotsUsed + n + i * (m + m * k)
  | 0 => ⟨by simp [f3S], by simp [f3S], rfl, by simp [f3S, gOC_sz]⟩
  | i + 1 => by
    obtain ⟨a, b, d, u⟩ := f3S_facts s c cm ci n m k dv i
    obtain ⟨a2, b2, d2, u2⟩ := f2S_facts (f3S s c cm ci n m k dv i) cm ci m k dv m
    have hlt : s.heap.size < (f3S s c cm ci n m k dv i).heap.size := by omega
    have hb' : (f2S (f3S s c cm ci n m k dv i) cm ci m k dv m).heap[s.heap.size]? = some (gOC c n (fun j => s.heap.size + 1 + j * (m + 1)) i) := by rw [f2S_old _ _ _ _ _ _ hlt]; exact b
    refine ⟨?_, State.heap_setCell_self hb', by simp [f3S, d2, d], ?_⟩
    · simp [f3S, State.setCell, a2, a, Nat.succ_mul]; omega
    · simp [f3S, u2, u, Nat.succ_mul]; omega
theorem f3S_old (s : State) (c cm ci : ClassId) (n m k : Nat) (dv : Value) {a : Nat} (ha : a < s.heap.size) : ∀ i, (f3S s c cm ci n m k dv i).heap[a]? = s.heap[a]?
  | 0 => State.heap_pushCell_of_lt _ _ ha
  | i + 1 => by
    have f1 := (f3S_facts s c cm ci n m k dv i).1
    show ((f2S (f3S s c cm ci n m k dv i) cm ci m k dv m).setCell s.heap.size _).heap[a]? = _
    rw [State.heap_setCell_other (Nat.ne_of_gt ha), f2S_old (f3S s c cm ci n m k dv i) cm ci m k dv (show a < (f3S s c cm ci n m k dv i).heap.size by rw [f1]; have : a < s.heap.size := ha; omega)]
    exact f3S_old s c cm ci n m k dv ha i
theorem f3S_in (s : State) (c cm ci : ClassId) (n m k : Nat) (dv : Value) : ∀ i j, j < i → (f3S s c cm ci n m k dv i).heap[s.heap.size + 1 + j * (m + 1)]? = some (gOC cm m (fun r => s.heap.size + 1 + j * (m + 1) + 1 + r) m) ∧ ∀ r, r < m → (f3S s c cm ci n m k dv i).heap[s.heap.size + 1 + j * (m + 1) + 1 + r]? = some (g1C ci k dv)
  | 0, _, h => absurd h (Nat.not_lt_zero _)
  | i + 1, j, h => by
    have f1 := (f3S_facts s c cm ci n m k dv i).1
    have key : ∀ a, s.heap.size < a → (f3S s c cm ci n m k dv (i + 1)).heap[a]? = (f2S (f3S s c cm ci n m k dv i) cm ci m k dv m).heap[a]? := fun a ha => by
      show ((f2S (f3S s c cm ci n m k dv i) cm ci m k dv m).setCell s.heap.size _).heap[a]? = _
      rw [State.heap_setCell_other (Nat.ne_of_lt ha)]
    rcases Nat.lt_or_ge j i with hj | hj
    · have hm : (j + 1) * (m + 1) ≤ i * (m + 1) := Nat.mul_le_mul_right _ hj
      rw [Nat.succ_mul] at hm
      obtain ⟨g1, g2⟩ := f3S_in s c cm ci n m k dv i j hj
      refine ⟨?_, fun r hr => ?_⟩
      · rw [key _ (by omega), f2S_old (f3S s c cm ci n m k dv i) cm ci m k dv (show s.heap.size + 1 + j * (m + 1) < (f3S s c cm ci n m k dv i).heap.size by rw [f1]; omega)]; exact g1
      · rw [key _ (by omega), f2S_old (f3S s c cm ci n m k dv i) cm ci m k dv (show s.heap.size + 1 + j * (m + 1) + 1 + r < (f3S s c cm ci n m k dv i).heap.size by rw [f1]; omega)]; exact g2 r hr
    · have hji : j = i := by omega
      subst hji
      obtain ⟨-, b2, -, -⟩ := f2S_facts (f3S s c cm ci n m k dv j) cm ci m k dv m
      have b3 := f2S_in (f3S s c cm ci n m k dv j) cm ci m k dv m
      rw [f1] at b2 b3
      refine ⟨?_, fun r hr => ?_⟩
      · rw [key _ (by omega)]; exact b2
      · rw [key _ (by omega)]; exact b3 r hr
theorem f3S_top (s : State) (f : JFrame) (c cm ci : ClassId) (n m k : Nat) (dv : Value) : ∀ i, f3S (s.setTop f) c cm ci n m k dv i = (f3S s c cm ci n m k dv i).setTop f
  | 0 => rfl
  | i + 1 => by simp only [f3S, f3S_top s f c cm ci n m k dv i, f2S_top, State.heap_setTop, State.setCell_setTop]
section GWP
variable {E : CtlPost} {e : Env} {d : Bool} {acts : List Action} {s : State}
theorem g_new {c comp : ClassId} {k : Class} {type : FieldType} {len : Nat} {init : Value} (hk : s.vm.classes[c]? = some k) (hkind : k.kind = .array comp type)
    (hlimit : ¬ len > e.platform.arrayLengthLimit) (hheap : ¬ len * componentBytes type > e.platform.maxHeapBytes) (hfit : fits type init = true) (hdef : init.isDefault = true) {Q : Addr → Pre}
    (h1 : s.heap.size < e.platform.maxCells) (h2 : s.slotsUsed + len ≤ e.platform.maxSlots) (hq : Q s.heap.size d acts (s.pushCell (g1C c len init))) : wp (Jvm.newArray c len init) Q E e d acts s := by
  have hfits : ∀ i v, (Array.replicate len init)[i]? = some v → s.fitsSlot c .none i v = true := by
    intro i v hv
    simp only [Array.getElem?_replicate] at hv
    split at hv
    · cases hv; simp [State.fitsSlot, State.slotType?, hk, hkind, hfit]
    · cases hv
  have hda : allocActs (Array.replicate len init) s.heap.size acts = acts := by
    have hall : ((Array.replicate len init).all (·.isDefault)) = true := by
      rw [Array.all_replicate]; split <;> simp [hdef]
    unfold allocActs; rw [if_pos hall]
  simp only [Jvm.newArray, Jvm.arrayFits, wp_bind', W.ask, W.ite, hlimit, if_false, wp_pure', W.theClass, hk, hkind, hheap, W.alloc, W.stop, Option.some.injEq, exists_eq_left', Array.size_replicate, hda]
  rw [if_neg (by omega)]
  exact ⟨h1, h2, hfits, hq⟩
theorem g_fit {t : FieldType} (h : t.isReference = true) (v : Value) (hv : v = .null ∨ ∃ a, v = .ref a) : fits t v = true := by
  rcases hv with rfl | ⟨a, rfl⟩ <;> cases t <;> simp [FieldType.isReference] at h <;> rfl
theorem g_make1 {comp cc : ClassId} {kc : Class} {type : FieldType} {m : Int32} (hkc : s.vm.classes[comp]? = some kc) (hkindc : kc.kind = .array cc type) (hm : ¬ m < 0)
    (hl2 : ¬ m.toNatClampNeg > e.platform.arrayLengthLimit) (hh2 : ¬ m.toNatClampNeg * componentBytes type > e.platform.maxHeapBytes)
    (hdf : fits type (defaultValue type) = true) (hdd : (defaultValue type).isDefault = true)
    (h1 : s.heap.size < e.platform.maxCells) (h2 : s.slotsUsed + m.toNatClampNeg ≤ e.platform.maxSlots)
    {Q : Addr → Pre} (hq : Q s.heap.size d acts (s.pushCell (g1C comp m.toNatClampNeg (defaultValue type)))) : wp (multianewarray.make comp [m]) Q E e d acts s := by
  rw [multianewarray.make]
  simp only [wp_bind', W.ite, hm, if_false, wp_pure', W.theClass, hkc, hkindc, Option.some.injEq, exists_eq_left']
  exact g_new hkc hkindc hl2 hh2 hdf hdd h1 h2 hq
theorem g_make2 {c comp cc : ClassId} {k kc : Class} {t0 type : FieldType} {n m : Int32} (hk : s.vm.classes[c]? = some k) (hkind : k.kind = .array comp t0) (href : t0.isReference = true)
    (hkc : s.vm.classes[comp]? = some kc) (hkindc : kc.kind = .array cc type) (hn : ¬ n < 0) (hm : ¬ m < 0)
    (hl1 : ¬ n.toNatClampNeg > e.platform.arrayLengthLimit) (hh1 : ¬ n.toNatClampNeg * componentBytes t0 > e.platform.maxHeapBytes)
    (hl2 : ¬ m.toNatClampNeg > e.platform.arrayLengthLimit) (hh2 : ¬ m.toNatClampNeg * componentBytes type > e.platform.maxHeapBytes)
    (hdf : fits type (defaultValue type) = true) (hdd : (defaultValue type).isDefault = true)
    (hc : s.heap.size + 1 + n.toNatClampNeg ≤ e.platform.maxCells) (hs : s.slotsUsed + n.toNatClampNeg + n.toNatClampNeg * m.toNatClampNeg ≤ e.platform.maxSlots)
    {Q : Addr → Pre} (hq : ∀ d' acts', Q s.heap.size d' acts' (f2S s c comp n.toNatClampNeg m.toNatClampNeg (defaultValue type) n.toNatClampNeg)) :
    wp (multianewarray.make c [n, m]) Q E e d acts s := by
  have hfind : ([m].find? (· < 0)) = none := by simp [hm]
  rw [multianewarray.make]
  simp only [wp_bind', W.ite, hn, if_false, wp_pure', W.theClass, hk, hkind, Option.some.injEq, exists_eq_left']
  refine g_new hk hkind hl1 hh1 (g_fit href _ (Or.inl rfl)) rfl (by omega) (by have := Nat.zero_le (n.toNatClampNeg * m.toNatClampNeg); omega) ?_
  have e0 : s.pushCell (g1C c n.toNatClampNeg .null) = f2S s c comp n.toNatClampNeg m.toNatClampNeg (defaultValue type) 0 := congrArg s.pushCell (gOC_0 c n.toNatClampNeg _)
  rw [e0]
  simp only [hfind]
  rw [ite_self, wp_bind', Std.Legacy.Range.forIn_eq_forIn_range']
  have hsz : ([:n.toNatClampNeg] : Std.Legacy.Range).size = n.toNatClampNeg := by simp [Std.Legacy.Range.size]
  rw [hsz]
  show wp (forIn (List.range' 0 n.toNatClampNeg 1) PUnit.unit _) _ E e d acts _
  refine wp_forIn_inv (fun rest s' => ∃ i, i ≤ n.toNatClampNeg ∧ rest = List.range' i (n.toNatClampNeg - i) ∧ s' = f2S s c comp n.toNatClampNeg m.toNatClampNeg (defaultValue type) i) _ _ ⟨0, Nat.zero_le _, rfl, rfl⟩ ?_ ?_
  · rintro x rest s' d' acts' Q' ⟨i, hi, hl, rfl⟩ hnext
    have hlt : i < n.toNatClampNeg := by
      rcases Nat.lt_or_ge i n.toNatClampNeg with h | h
      · exact h
      · rw [show n.toNatClampNeg - i = 0 from by omega] at hl; simp at hl
    obtain ⟨rfl, hrest⟩ : x = i ∧ rest = List.range' (i + 1) (n.toNatClampNeg - (i + 1)) := by
      rw [show n.toNatClampNeg - i = (n.toNatClampNeg - (i + 1)) + 1 from by omega, List.range'_succ] at hl
      exact ⟨(List.cons.inj hl).1, (List.cons.inj hl).2⟩
    obtain ⟨f1, f2, f3, f4⟩ := f2S_facts s c comp n.toNatClampNeg m.toNatClampNeg (defaultValue type) x
    have hmul : x * m.toNatClampNeg + m.toNatClampNeg ≤ n.toNatClampNeg * m.toNatClampNeg := by
      have := Nat.mul_le_mul_right m.toNatClampNeg (show x + 1 ≤ n.toNatClampNeg from hlt)
      rw [Nat.succ_mul] at this; exact this
    simp only [wp_bind']
    refine g_make1 (by rw [f3]; exact hkc) hkindc hm hl2 hh2 hdf hdd (by rw [f1]; omega) (by rw [f4]; omega) ?_
    have hlt0 : s.heap.size < (f2S s c comp n.toNatClampNeg m.toNatClampNeg (defaultValue type) x).heap.size := by rw [f1]; omega
    simp only [wp_bind', W.writeLoc, wp_pure']
    refine ⟨gOC c n.toNatClampNeg (fun j => s.heap.size + 1 + j) x, by rw [State.heap_pushCell_of_lt (h := hlt0)]; exact f2, by simp [gOC, arrV], by rw [gOC_sz]; exact hlt, ?_, hnext _ _ _ ⟨x + 1, hlt, hrest, ?_⟩⟩
    · simp [gOC, arrV, State.fitsSlot, State.slotType?, f3, hk, hkind, g_fit href _ (Or.inr ⟨_, rfl⟩)]
    · rw [f1, gOC_step c n.toNatClampNeg (fun j => s.heap.size + 1 + j) x]; rfl
  · rintro s' d' acts' ⟨i, hi, hl, rfl⟩
    have hiN : i = n.toNatClampNeg := by
      rcases Nat.lt_or_ge i n.toNatClampNeg with h | h
      · rw [show n.toNatClampNeg - i = (n.toNatClampNeg - (i + 1)) + 1 from by omega, List.range'_succ] at hl; cases hl
      · omega
    subst hiN
    simp only [wp_pure']
    exact hq _ _
theorem g_make3 {c cm ci cc : ClassId} {k km kc : Class} {t0 t1 type : FieldType} {n m r : Int32} (hk : s.vm.classes[c]? = some k) (hkind : k.kind = .array cm t0) (href : t0.isReference = true)
    (hkm : s.vm.classes[cm]? = some km) (hkindm : km.kind = .array ci t1) (href1 : t1.isReference = true)
    (hkc : s.vm.classes[ci]? = some kc) (hkindc : kc.kind = .array cc type) (hn : ¬ n < 0) (hm : ¬ m < 0) (hr : ¬ r < 0)
    (hl1 : ¬ n.toNatClampNeg > e.platform.arrayLengthLimit) (hh1 : ¬ n.toNatClampNeg * componentBytes t0 > e.platform.maxHeapBytes)
    (hl2 : ¬ m.toNatClampNeg > e.platform.arrayLengthLimit) (hh2 : ¬ m.toNatClampNeg * componentBytes t1 > e.platform.maxHeapBytes)
    (hl3 : ¬ r.toNatClampNeg > e.platform.arrayLengthLimit) (hh3 : ¬ r.toNatClampNeg * componentBytes type > e.platform.maxHeapBytes)
    (hdf : fits type (defaultValue type) = true) (hdd : (defaultValue type).isDefault = true)
    (hc : s.heap.size + 1 + n.toNatClampNeg * (m.toNatClampNeg + 1) ≤ e.platform.maxCells) (hs : s.slotsUsed + n.toNatClampNeg + n.toNatClampNeg * (m.toNatClampNeg + m.toNatClampNeg * r.toNatClampNeg) ≤ e.platform.maxSlots)
    {Q : Addr → Pre} (hq : ∀ d' acts', Q s.heap.size d' acts' (f3S s c cm ci n.toNatClampNeg m.toNatClampNeg r.toNatClampNeg (defaultValue type) n.toNatClampNeg)) :
    wp (multianewarray.make c [n, m, r]) Q E e d acts s := by
  have hfind : ([m, r].find? (· < 0)) = none := by simp [hm, hr]
  rw [multianewarray.make]
  simp only [wp_bind', W.ite, hn, if_false, wp_pure', W.theClass, hk, hkind, Option.some.injEq, exists_eq_left']
  refine g_new hk hkind hl1 hh1 (g_fit href _ (Or.inl rfl)) rfl (by omega) (by have := Nat.zero_le (n.toNatClampNeg * (m.toNatClampNeg + m.toNatClampNeg * r.toNatClampNeg)); omega) ?_
  have e0 : s.pushCell (g1C c n.toNatClampNeg .null) = f3S s c cm ci n.toNatClampNeg m.toNatClampNeg r.toNatClampNeg (defaultValue type) 0 := congrArg s.pushCell (gOC_0 c n.toNatClampNeg _)
  rw [e0]
  simp only [hfind]
  rw [ite_self, wp_bind', Std.Legacy.Range.forIn_eq_forIn_range']
  have hsz : ([:n.toNatClampNeg] : Std.Legacy.Range).size = n.toNatClampNeg := by simp [Std.Legacy.Range.size]
  rw [hsz]
  show wp (forIn (List.range' 0 n.toNatClampNeg 1) PUnit.unit _) _ E e d acts _
  refine wp_forIn_inv (fun rest s' => ∃ i, i ≤ n.toNatClampNeg ∧ rest = List.range' i (n.toNatClampNeg - i) ∧ s' = f3S s c cm ci n.toNatClampNeg m.toNatClampNeg r.toNatClampNeg (defaultValue type) i) _ _ ⟨0, Nat.zero_le _, rfl, rfl⟩ ?_ ?_
  · rintro x rest s' d' acts' Q' ⟨i, hi, hl, rfl⟩ hnext
    have hlt : i < n.toNatClampNeg := by
      rcases Nat.lt_or_ge i n.toNatClampNeg with h | h
      · exact h
      · rw [show n.toNatClampNeg - i = 0 from by omega] at hl; simp at hl
    obtain ⟨rfl, hrest⟩ : x = i ∧ rest = List.range' (i + 1) (n.toNatClampNeg - (i + 1)) := by
      rw [show n.toNatClampNeg - i = (n.toNatClampNeg - (i + 1)) + 1 from by omega, List.range'_succ] at hl
      exact ⟨(List.cons.inj hl).1, (List.cons.inj hl).2⟩
    obtain ⟨f1, f2, f3, f4⟩ := f3S_facts s c cm ci n.toNatClampNeg m.toNatClampNeg r.toNatClampNeg (defaultValue type) x
    have hmul : x * (m.toNatClampNeg + m.toNatClampNeg * r.toNatClampNeg) + (m.toNatClampNeg + m.toNatClampNeg * r.toNatClampNeg) ≤ n.toNatClampNeg * (m.toNatClampNeg + m.toNatClampNeg * r.toNatClampNeg) := by
      have := Nat.mul_le_mul_right (m.toNatClampNeg + m.toNatClampNeg * r.toNatClampNeg) (show x + 1 ≤ n.toNatClampNeg from hlt)
      rw [Nat.succ_mul] at this; exact this
    have hmul2 : x * (m.toNatClampNeg + 1) + (m.toNatClampNeg + 1) ≤ n.toNatClampNeg * (m.toNatClampNeg + 1) := by
      have := Nat.mul_le_mul_right (m.toNatClampNeg + 1) (show x + 1 ≤ n.toNatClampNeg from hlt)
      rw [Nat.succ_mul] at this; exact this
    simp only [wp_bind']
    refine g_make2 (by rw [f3]; exact hkm) hkindm href1 (by rw [f3]; exact hkc) hkindc hm hr hl2 hh2 hl3 hh3 hdf hdd (by rw [f1]; omega) (by rw [f4]; omega) (fun d9 acts9 => ?_)
    have hlt0 : s.heap.size < (f3S s c cm ci n.toNatClampNeg m.toNatClampNeg r.toNatClampNeg (defaultValue type) x).heap.size := by rw [f1]; omega
    simp only [wp_bind', W.writeLoc, wp_pure']
    refine ⟨gOC c n.toNatClampNeg (fun j => s.heap.size + 1 + j * (m.toNatClampNeg + 1)) x, by rw [f2S_old _ _ _ _ _ _ hlt0]; exact f2, by simp [gOC, arrV], by rw [gOC_sz]; exact hlt, ?_, hnext _ _ _ ⟨x + 1, hlt, hrest, ?_⟩⟩
    · have hvm := (f2S_facts (f3S s c cm ci n.toNatClampNeg m.toNatClampNeg r.toNatClampNeg (defaultValue type) x) cm ci m.toNatClampNeg r.toNatClampNeg (defaultValue type) m.toNatClampNeg).2.2.1
      simp [gOC, arrV, State.fitsSlot, State.slotType?, hvm, f3, hk, hkind, g_fit href _ (Or.inr ⟨_, rfl⟩)]
    · rw [f1, gOC_step c n.toNatClampNeg (fun j => s.heap.size + 1 + j * (m.toNatClampNeg + 1)) x]; rfl
  · rintro s' d' acts' ⟨i, hi, hl, rfl⟩
    have hiN : i = n.toNatClampNeg := by
      rcases Nat.lt_or_ge i n.toNatClampNeg with h | h
      · rw [show n.toNatClampNeg - i = (n.toNatClampNeg - (i + 1)) + 1 from by omega, List.range'_succ] at hl; cases hl
      · omega
    subst hiN
    simp only [wp_pure']
    exact hq _ _
end GWP
