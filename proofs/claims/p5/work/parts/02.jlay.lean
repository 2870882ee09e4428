/-! THE J LAYER (own work): a method's world as a map from addresses to cells, its frame as a list of locals and a stack; a block of plain instructions is run by evaluation. -/
/-- a cell: an array (class number, contents), or an object (place of its class, its fields by their places) -/
abbrev jEl : Type := (ClassId × vp_A) ⊕ (Nat × (Nat → Value))
def jat (D : va_G) (a : Nat) (e : jEl) (H : Heap) : Prop := match e with
  | .inl x => H[a]? = some (vp_cell x.1 x.2)
  | .inr o => ∃ r : vw_C, vwCl[o.1]? = some r ∧ t_OB a (D.1 o.1) r.2.2 (D.2 o.1) H o.2
theorem jat.kept {D : va_G} {a : Nat} {e : jEl} {H H1 : Heap} (h : jat D a e H) (hq : H1[a]? = H[a]?) : jat D a e H1 := by
  cases e with
  | inl x => exact hq.trans h
  | inr o =>
    obtain ⟨r, h1, h2⟩ := h
    exact ⟨r, h1, h2.kept hq⟩
theorem jat.lt {D : va_G} {a : Nat} {e : jEl} {H : Heap} (h : jat D a e H) : a < H.size := by
  cases e with
  | inl x => exact (Array.getElem?_eq_some_iff.mp h).1
  | inr o =>
    obtain ⟨r, h1, cell, h2, -⟩ := h
    exact (Array.getElem?_eq_some_iff.mp h2).1
abbrev jM : Type := Nat → Option jEl
abbrev jW : Type := jM × Nat × Nat
def jsum (H : Heap) (B : Nat) : Nat := ((H.toList.drop B).map (·.slots.size)).sum
def jH (D : va_G) (B : Nat) (H0 : Heap) (w : jW) (H : Heap) : Prop :=
  H.size = B + w.2.1 ∧ jsum H B = w.2.2 ∧ (∀ q, q < B → H[q]? = H0[q]?) ∧ ∀ a e, w.1 a = some e → B ≤ a ∧ jat D a e H
theorem jH.at {D : va_G} {B : Nat} {H0 : Heap} {w : jW} {H : Heap} (h : jH D B H0 w H) {a : Nat} {e : jEl} (ha : w.1 a = some e) : jat D a e H := (h.2.2.2 a e ha).2
theorem jH.le {D : va_G} {B : Nat} {H0 : Heap} {w : jW} {H : Heap} (h : jH D B H0 w H) {a : Nat} {e : jEl} (ha : w.1 a = some e) : B ≤ a := (h.2.2.2 a e ha).1
theorem jsum_set {H H1 : Heap} {B a : Nat} {c c1 : Cell} (hs : H1.size = H.size) (h : H[a]? = some c) (h1 : H1[a]? = some c1) (hc : c1.slots.size = c.slots.size) (oq : ∀ q, q ≠ a → H1[q]? = H[q]?) : jsum H1 B = jsum H B := by
  unfold jsum
  congr 1
  apply List.ext_getElem?
  intro i
  rw [List.getElem?_map, List.getElem?_map, List.getElem?_drop, List.getElem?_drop, Array.getElem?_toList, Array.getElem?_toList]
  by_cases e : B + i = a
  · rw [e, h, h1]
    simp [hc]
  · rw [oq _ e]
theorem jH.set {D : va_G} {B : Nat} {H0 : Heap} {w : jW} {H H1 : Heap} (h : jH D B H0 w H) {a : Nat} {e0 e : jEl} (ha : w.1 a = some e0) {c c1 : Cell} (hs : H1.size = H.size) (hc0 : H[a]? = some c) (h1 : H1[a]? = some c1) (hc : c1.slots.size = c.slots.size) (oq : ∀ q, q ≠ a → H1[q]? = H[q]?) (he : jat D a e H1) : jH D B H0 (va_up w.1 a (some e), w.2) H1 := by
  have hB := h.le ha
  refine ⟨by rw [hs]; exact h.1, by rw [jsum_set hs hc0 h1 hc oq]; exact h.2.1, fun q hq => by rw [oq q (by omega)]; exact h.2.2.1 q hq, fun b f hb => ?_⟩
  by_cases hba : b = a
  · subst hba
    simp only [va_up, if_true] at hb
    cases hb
    exact ⟨hB, he⟩
  · simp only [va_up, if_neg hba] at hb
    exact ⟨h.le hb, (h.at hb).kept (oq b hba)⟩
theorem jsum_push {H H1 : Heap} {B : Nat} {c : Cell} (hB : B ≤ H.size) (hs : H1 = H.push c) : jsum H1 B = jsum H B + c.slots.size := by
  subst hs
  unfold jsum
  rw [Array.toList_push, List.drop_append_of_le_length (by simpa using hB)]
  simp
theorem jH.push {D : va_G} {B : Nat} {H0 : Heap} {w : jW} {H : Heap} (h : jH D B H0 w H) {c : Cell} {e : jEl} (he : jat D H.size e (H.push c)) : jH D B H0 (va_up w.1 H.size (some e), w.2.1 + 1, w.2.2 + c.slots.size) (H.push c) := by
  have hB : B ≤ H.size := by rw [h.1]; omega
  refine ⟨by rw [Array.size_push, h.1]; show _ = B + (w.2.1 + 1); omega, by rw [jsum_push hB rfl, h.2.1], fun q hq => by rw [Array.getElem?_push, if_neg (by omega)]; exact h.2.2.1 q hq, fun b f hb => ?_⟩
  by_cases hba : b = H.size
  · subst hba
    simp only [va_up, if_true] at hb
    cases hb
    exact ⟨hB, he⟩
  · simp only [va_up, if_neg hba] at hb
    refine ⟨h.le hb, (h.at hb).kept ?_⟩
    have := (h.at hb).lt
    rw [Array.getElem?_push, if_neg hba]
theorem jH.fresh {D : va_G} {B : Nat} {H0 : Heap} {w : jW} {H : Heap} (h : jH D B H0 w H) : ∀ a e, w.1 a = some e → a < H.size := fun _ _ ha => (h.at ha).lt
/-- the tables' words that a callee inherits -/
def jwd : List Cond := lw_tbl.filter goodWord
theorem jmem {w : Cond} (i : Nat) (h : lw_tbl[i]? = some w) (hg : goodWord w = true) : w ∈ jwd := List.mem_filter.mpr ⟨List.mem_of_getElem? h, hg⟩
/-- words between nest mates -/
def jnw : Cond → Bool
  | .fieldLinkNest .. => true
  | .methodLinkNest .. => true
  | _ => false
def jnest : List Cond := lw_tbl.filter jnw
theorem jmemN {w : Cond} (i : Nat) (h : lw_tbl[i]? = some w) (hg : jnw w = true) : w ∈ jnest := List.mem_filter.mpr ⟨List.mem_of_getElem? h, hg⟩
def jAT : List FieldType := [.int, .long, .boolean, .array .int, .array .boolean, .array .long, .array (.array .long), .object "ChanceSteps$Crowd", .object "ChanceSteps$Program", .object "ChanceSteps$Sheet", .object "ChanceSteps$Step", .object "ChanceStepsModel$Odds"]
/-- the array class over a type, and its component -/
def jcn : FieldType → String
  | .object C => C
  | t => t.toString
def jA (U : State) (cA : ClassId) (ty : FieldType) : Prop := ∃ (kA : Class) (comp : ClassId), U.vm.classes[cA]? = some kA ∧ kA.kind = .array comp ty ∧ U.vm.findClass ("[" ++ ty.toString) = some cA ∧ (ty.isReference = true → U.vm.findClass (jcn ty) = some comp)
theorem jA.moved {u U : State} (hvm : u.vm.Alike U.vm) {cA : ClassId} {ty : FieldType} (h : jA u cA ty) : jA U cA ty := by
  obtain ⟨kA, comp, h1, h2, h3, h4⟩ := h
  obtain ⟨k', hk', he⟩ := hvm.2.2 _ _ h1
  exact ⟨k', comp, hk', by rw [he]; exact h2, by rw [hvm.findClass]; exact h3, fun hr => by rw [hvm.findClass]; exact h4 hr⟩
theorem jA.arr {U : State} {cA : ClassId} {ty : FieldType} (h : jA U cA ty) : ArrOfT U cA ty := by
  obtain ⟨kA, comp, h1, h2, -⟩ := h
  exact fun N z => ⟨(fun k h => by cases h), kA, h1, comp, h2⟩
def jAO : List String := ["ChanceSteps$Crowd", "ChanceSteps$Program", "ChanceSteps$Sheet", "ChanceSteps$Step", "ChanceStepsModel$Odds"]
def jK (D : va_G) (U : State) : Prop :=
  (∀ (c : Nat) (q : vw_C), vwCl[c]? = some q → u_Kn U q.1 q.2.1 q.2.2 (D.1 c) (D.2 c)) ∧
  (∀ (k : Nat) (ty : FieldType), jAT[k]? = some ty → jA U (D.1 (100 + k)) ty) ∧
  (∀ C ∈ jAO, va_AO C U) ∧ ∀ w ∈ jnest, w.before #[] U = true
