/-! THE J LAYER: the judgement and the block runner (own work) -/
theorem jnest_warm {s U : State} (hW : s.WarmedH U.vm) {w : Cond} (hw : w ∈ jnest) (h : w.before #[] s = true) : w.before #[] U = true := by
  have h1 := (List.mem_filter.mp hw).2
  cases w with
  | fieldLinkNest a i b n d h2 => exact va_Nw.warmF hW h
  | methodLinkNest a i x h2 => exact va_Nw.warmM hW h
  | _ => simp [jnw] at h1
theorem jK.moved {D : va_G} {s U : State} (hW : s.WarmedH U.vm) (h : jK D s) : jK D U := by
  have hvm := hW.alike
  obtain ⟨h1, h2, h3, h4⟩ := h
  exact ⟨fun c q hq => u_Kn_moved hvm (h1 c q hq), fun k ty hk => (h2 k ty hk).moved hvm, fun C hC => (h3 C hC).moved hvm, fun w hw => jnest_warm hW hw (h4 w hw)⟩

/-- String constants: their class, entry, text; their lengths and bytes; read off the claim's own words -/
def jstr : List (String × Nat × String) := [("ChanceSteps$Reader", 183, "draw"), ("ChanceSteps$Reader", 185, "let"), ("ChanceSteps$Reader", 187, "see"), ("ChanceSteps$Reader", 189, "if"), ("ChanceSteps$Reader", 191, "loop"), ("ChanceSteps$Reader", 193, "run"), ("ChanceStepsModel", 139, "draw"), ("ChanceStepsModel", 145, "let"), ("ChanceStepsModel", 147, "see"), ("ChanceStepsModel", 149, "if"), ("ChanceStepsModel", 151, "loop"), ("ChanceStepsModel", 153, "run"), ("ChanceStepsModel", 168, ";{}()+-*%<=,:")]
def jbyt : List (List Int32) := [[100, 114, 97, 119], [108, 101, 116], [115, 101, 101], [105, 102], [108, 111, 111, 112], [114, 117, 110], [100, 114, 97, 119], [108, 101, 116], [115, 101, 101], [105, 102], [108, 111, 111, 112], [114, 117, 110], [59, 123, 125, 40, 41, 43, 45, 42, 37, 60, 61, 44, 58]]
def jlen : List Nat := [4, 3, 3, 2, 4, 3, 4, 3, 3, 2, 4, 3, 13]
abbrev jsK (D : va_G) (i : Nat) : Nat := D.1 (1000 + i)
abbrev jsV (D : va_G) (i : Nat) : Nat := D.1 (1100 + i)
/-- what stands of them, and of two static fields of the JDK, below the base -/
def jS (D : va_G) (B : Nat) (H0 : Heap) (U : State) : Prop :=
  (∀ i : Nat, i < 13 → va_O "java/lang/String" (jsK D i) (fun q => B ≤ q) U H0 ∧ va_OF "java/lang/String" "coder" "B" (.int 0) (jsK D i) (fun q => B ≤ q) U H0 ∧ va_OF "java/lang/String" "value" "[B" (.ref (jsV D i)) (jsK D i) (fun q => B ≤ q) U H0 ∧ va_T .byte (jsV D i) (jlen.getD i 0) (fun j => .int ((jbyt.getD i []).getD j 0)) (fun q => B ≤ q) U H0) ∧ (∀ (i : Nat) (q : String × Nat × String), jstr[i]? = some q → vk_R q.1 q.2.1 q.2.2 (jsK D i) U) ∧
  va_Z "java/lang/String" "COMPACT_STRINGS" "Z" (.int 1) (fun q => B ≤ q) U H0 ∧ va_Zq "jdk/internal/util/Preconditions" "SIOOBE_FORMATTER" "Ljava/util/function/BiFunction;" (fun q => B ≤ q) U H0
theorem jS.moved {D : va_G} {B : Nat} {H0 : Heap} {s U : State} (hW : s.WarmedH U.vm) (h : jS D B H0 s) : jS D B H0 U :=
  ⟨fun i hi => ⟨(h.1 i hi).1.moved hW.alike, (h.1 i hi).2.1.moved hW.alike, (h.1 i hi).2.2.1.moved hW.alike, (h.1 i hi).2.2.2.moved hW.alike⟩, fun i q hq => (h.2.1 i q hq).warm hW, h.2.2.1.moved hW.alike, h.2.2.2.moved hW.alike⟩
theorem jS.same {D : va_G} {B : Nat} {H0 : Heap} {s U : State} (hv : s.vm = U.vm) (h : jS D B H0 s) : jS D B H0 U := by
  have hvm : s.vm.Alike U.vm := by rw [hv]; exact Vm.Alike.refl _
  exact ⟨fun i hi => ⟨(h.1 i hi).1.moved hvm, (h.1 i hi).2.1.moved hvm, (h.1 i hi).2.2.1.moved hvm, (h.1 i hi).2.2.2.moved hvm⟩, fun i q hq => (h.2.1 i q hq).same hv.symm, h.2.2.1.moved hvm, h.2.2.2.moved hvm⟩

/-- what is fixed within a method: program, launch, outside, room, entry state, method, arguments, frames below, method record, code, class numbers, base, the heap at the base, counts at the entry, number of locals, the goal, the bytes, the method's name -/
abbrev jG : Type := Program × Launch × Env × Room × State × MethodId × Array Value × List Frame × Method × Code × va_G × Nat × Heap × Nat × Nat × Nat × (State → Prop) × ByteArray × MethodName
abbrev jGp (g : jG) : Program := g.1
abbrev jGl (g : jG) : Launch := g.2.1
abbrev jGe (g : jG) : Env := g.2.2.1
abbrev jGR (g : jG) : Room := g.2.2.2.1
abbrev jGs (g : jG) : State := g.2.2.2.2.1
abbrev jGm (g : jG) : MethodId := g.2.2.2.2.2.1
abbrev jGa (g : jG) : Array Value := g.2.2.2.2.2.2.1
abbrev jGb (g : jG) : List Frame := g.2.2.2.2.2.2.2.1
abbrev jGt (g : jG) : Method := g.2.2.2.2.2.2.2.2.1
abbrev jGc (g : jG) : Code := g.2.2.2.2.2.2.2.2.2.1
abbrev jGD (g : jG) : va_G := g.2.2.2.2.2.2.2.2.2.2.1
abbrev jGB (g : jG) : Nat := g.2.2.2.2.2.2.2.2.2.2.2.1
abbrev jGH (g : jG) : Heap := g.2.2.2.2.2.2.2.2.2.2.2.2.1
abbrev jGk (g : jG) : Nat := g.2.2.2.2.2.2.2.2.2.2.2.2.2.1
abbrev jGn (g : jG) : Nat := g.2.2.2.2.2.2.2.2.2.2.2.2.2.2.1
abbrev jGL (g : jG) : Nat := g.2.2.2.2.2.2.2.2.2.2.2.2.2.2.2.1
abbrev jGQ (g : jG) : State → Prop := g.2.2.2.2.2.2.2.2.2.2.2.2.2.2.2.2.1
abbrev jGo (g : jG) : ByteArray := g.2.2.2.2.2.2.2.2.2.2.2.2.2.2.2.2.2.1
abbrev jGy (g : jG) : MethodName := g.2.2.2.2.2.2.2.2.2.2.2.2.2.2.2.2.2.2
/-- what holds of it -/
def jC (g : jG) : Prop := (jGp g).tables.exec = Jvm.exec ∧ (jGc g).code = jGo g ∧ (jGc g).maxLocals = jGL g ∧ (jGs g).vm.findClass (jGy g).cls = some (jGm g).cls ∧ (∀ w ∈ jwd, w.before (jGa g) (jGs g) = true) ∧ jK (jGD g) (jGs g) ∧ (jGt g).name = (jGy g).name ∧ (jGt g).locks = false ∧ jS (jGD g) (jGB g) (jGH g) (jGs g) ∧ ∃ M0, jH (jGD g) (jGB g) (jGH g) (M0, jGk g, jGn g) (jGs g).heap
/-- THE JUDGEMENT: with the world w, at pc, with these locals and this stack, the goal is reached -/
def JJ (g : jG) (w : jW) (pc : Nat) (L : List (Nat × Value)) (st : List Value) : Prop :=
  ∀ (H : Heap) (locs : List Loc) (ls : Array Slot), jH (jGD g) (jGB g) (jGH g) w H → jGk g ≤ w.2.1 → jGn g ≤ w.2.2 → (∀ q ∈ locs, jGB g ≤ q.base) → lv_has ls (jGL g) L →
    W (jGp g) (jGl g) (jGe g) (jGR g) (jGs g) (jGm g) (jGa g) (jGb g) (jGt g) (jGc g) H locs (w.2.1 - jGk g) (w.2.2 - jGn g) (jGQ g) (F0 (jGm g) pc ls st)
theorem JJ.sub {g : jG} {w : jW} {pc : Nat} {L L' : List (Nat × Value)} {st : List Value} (ks : List Nat) (h : lv_pick L ks = L') (k : JJ g w pc L' st) : JJ g w pc L st :=
  fun H locs ls h1 h2 h3 h4 h5 => k H locs ls h1 h2 h3 h4 (lv_sub h5 ks h)
/-- fewer locals, in any order, each by a look-up -/
def jlk : List (Nat × Value) → Nat → Option Value
  | [], _ => none
  | q :: l, i => match Nat.beq q.1 i with
    | true => some q.2
    | false => jlk l i
theorem jlk_mem {l : List (Nat × Value)} {i : Nat} {v : Value} (h : jlk l i = some v) : (i, v) ∈ l := by
  induction l with
  | nil => cases h
  | cons q l ih =>
    unfold jlk at h
    split at h
    · rename_i hb
      have := Nat.eq_of_beq_eq_true hb
      cases h
      rw [← this]
      exact List.mem_cons_self
    · exact List.mem_cons_of_mem _ (ih h)
theorem jlk_at {ls : Array Slot} {nL : Nat} {l : List (Nat × Value)} {i : Nat} {v : Value} (h : lv_has ls nL l) (hk : jlk l i = some v) : ls[i]? = some (.val v) := h.2.2 (i, v) (jlk_mem hk)
def jall (L : List (Nat × Value)) : List (Nat × Value) → Prop
  | [] => True
  | q :: l => jlk L q.1 = some q.2 ∧ jall L l
theorem jall_has {ls : Array Slot} {nL : Nat} {L L' : List (Nat × Value)} (h : lv_has ls nL L) (ha : jall L L') : lv_has ls nL L' := by
  refine ⟨h.1, h.2.1, ?_⟩
  induction L' with
  | nil => intro q hq; cases hq
  | cons q l ih =>
    intro q' hq'
    rcases List.mem_cons.mp hq' with rfl | h1
    · exact jlk_at h ha.1
    · exact ih ha.2 q' h1
theorem JJ.loc {g : jG} {w : jW} {pc : Nat} {L : List (Nat × Value)} (L' : List (Nat × Value)) {st : List Value} (h : jall L L') (k : JJ g w pc L' st) : JJ g w pc L st :=
  fun H locs ls h1 h2 h3 h4 h5 => k H locs ls h1 h2 h3 h4 (jall_has h5 h)
