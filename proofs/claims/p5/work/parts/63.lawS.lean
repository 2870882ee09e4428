/-! the String constants at the law's start (own work) -/
def jtm (i : Nat) : Term := match jstr[i]? with
  | some q => .string q.1 q.2.1
  | none => .int 0
theorem jtm_of {i : Nat} {q : String × Nat × String} (h : jstr[i]? = some q) : jtm i = .string q.1 q.2.1 := by
  unfold jtm
  rw [h]
abbrev jpre : Cond := Jvm.Cond.and given_1 narrow_1
theorem law_ref {s : State} {args : Array Value} (hts : ∀ w ∈ lw_tbl, w.before args s = true) (i : Nat) (q : String × Nat × String) (h : jstr[i]? = some q) : (Cond.stringRef q.1 q.2.1 q.2.2).before args s = true := by
  match i, h with
  | 0, h => cases h; exact hts _ (List.mem_of_getElem? (i := 489) (by decide +kernel))
  | 1, h => cases h; exact hts _ (List.mem_of_getElem? (i := 490) (by decide +kernel))
  | 2, h => cases h; exact hts _ (List.mem_of_getElem? (i := 491) (by decide +kernel))
  | 3, h => cases h; exact hts _ (List.mem_of_getElem? (i := 492) (by decide +kernel))
  | 4, h => cases h; exact hts _ (List.mem_of_getElem? (i := 493) (by decide +kernel))
  | 5, h => cases h; exact hts _ (List.mem_of_getElem? (i := 494) (by decide +kernel))
  | 6, h => cases h; exact hts _ (List.mem_of_getElem? (i := 1282) (by decide +kernel))
  | 7, h => cases h; exact hts _ (List.mem_of_getElem? (i := 1289) (by decide +kernel))
  | 8, h => cases h; exact hts _ (List.mem_of_getElem? (i := 1290) (by decide +kernel))
  | 9, h => cases h; exact hts _ (List.mem_of_getElem? (i := 1291) (by decide +kernel))
  | 10, h => cases h; exact hts _ (List.mem_of_getElem? (i := 1292) (by decide +kernel))
  | 11, h => cases h; exact hts _ (List.mem_of_getElem? (i := 1293) (by decide +kernel))
  | 12, h => cases h; exact hts _ (List.mem_of_getElem? (i := 1294) (by decide +kernel))
  | i + 13, h => simp [jstr] at h
theorem law_S {s : State} {args : Array Value} (hts : ∀ w ∈ lw_tbl, w.before args s = true) (h : jpre.before args s = true) : ∃ K V : Nat → Nat, (∀ i : Nat, i < 13 → va_O "java/lang/String" (K i) (fun q => s.heap.size ≤ q) s s.heap ∧ va_OF "java/lang/String" "coder" "B" (.int 0) (K i) (fun q => s.heap.size ≤ q) s s.heap ∧ va_OF "java/lang/String" "value" "[B" (.ref (V i)) (K i) (fun q => s.heap.size ≤ q) s s.heap ∧ va_T .byte (V i) (jlen.getD i 0) (fun j => .int ((jbyt.getD i []).getD j 0)) (fun q => s.heap.size ≤ q) s s.heap) ∧ (∀ (i : Nat) (q : String × Nat × String), jstr[i]? = some q → vk_R q.1 q.2.1 q.2.2 (K i) s) ∧
    va_Z "java/lang/String" "COMPACT_STRINGS" "Z" (.int 1) (fun q => s.heap.size ≤ q) s s.heap ∧ va_Zq "jdk/internal/util/Preconditions" "SIOOBE_FORMATTER" "Ljava/util/function/BiFunction;" (fun q => s.heap.size ≤ q) s s.heap := by
  have hs := flat_of_before _ h
  have hA : ∀ a : Nat, a < s.heap.size → ¬ s.heap.size ≤ a := fun a h => by omega
  have x1 : ∀ i, i < 13 → (Cond.exactly (jtm i) "java/lang/String").before args s = true := fun i hi => hs _ (by revert hi; revert i; decide +kernel)
  have x2 : ∀ i, i < 13 → (Cond.eq (.field (jtm i) "java/lang/String" "coder" "B") (.int 0)).before args s = true := fun i hi => hs _ (by revert hi; revert i; decide +kernel)
  have x3 : ∀ i, i < 13 → (Cond.arrayOf (.field (jtm i) "java/lang/String" "value" "[B") .byte).before args s = true := fun i hi => hs _ (by revert hi; revert i; decide +kernel)
  have x4 : ∀ i, i < 13 → (Cond.eq (.length (.field (jtm i) "java/lang/String" "value" "[B")) (.int (Int32.ofNat (jlen.getD i 0)))).before args s = true := fun i hi => hs _ (by revert hi; revert i; decide +kernel)
  have x5 : ∀ i, i < 13 → ∀ j, j < jlen.getD i 0 → (Cond.eq (.elem (.field (jtm i) "java/lang/String" "value" "[B") (.int (Int32.ofNat j))) (.int ((jbyt.getD i []).getD j 0))).before args s = true := fun i hi j hj => hs _ (by revert hj; revert j; revert hi; revert i; decide +kernel)
  have x6 : (Cond.eq (Term.static "java/lang/String" "COMPACT_STRINGS" "Z") (.int 1)).before args s = true := hs _ (by decide +kernel)
  have x7 : (Cond.isRef (Term.static "jdk/internal/util/Preconditions" "SIOOBE_FORMATTER" "Ljava/util/function/BiFunction;")).before args s = true := hs _ (by decide +kernel)
  have each : ∀ i, ∃ q : Nat × Nat, i < 13 → (va_O "java/lang/String" q.1 (fun q => s.heap.size ≤ q) s s.heap ∧ va_OF "java/lang/String" "coder" "B" (.int 0) q.1 (fun q => s.heap.size ≤ q) s s.heap ∧ va_OF "java/lang/String" "value" "[B" (.ref q.2) q.1 (fun q => s.heap.size ≤ q) s s.heap ∧ va_T .byte q.2 (jlen.getD i 0) (fun j => .int ((jbyt.getD i []).getD j 0)) (fun q => s.heap.size ≤ q) s s.heap) ∧ (jtm i).eval args s none [] s = some (.ref q.1) := by
    intro i
    by_cases hi : i < 13
    · have z0 : ∀ k : Nat, k < 1 → k = 0 := fun k hk => by omega
      obtain ⟨K, V, h1, h2⟩ := vk_Sof (N := 1) (tm := fun _ => jtm i) (len := [jlen.getD i 0]) (byt := [jbyt.getD i []]) (A := fun q => s.heap.size ≤ q) (args := args) (s := s) (fun k hk => by rw [z0 k hk]; show jlen.getD i 0 < _; have := jlen_lt i hi; omega) (fun k hk => x1 i hi) (fun k hk => x2 i hi) (fun k hk => x3 i hi) (fun k hk => by rw [z0 k hk]; exact x4 i hi) (fun k hk => by rw [z0 k hk]; exact x5 i hi) (fun a b ha hb hab => absurd ((z0 a ha).trans (z0 b hb).symm) hab) hA
      exact ⟨(K 0, V 0), fun _ => ⟨h1.1 0 (by decide), h2 0 (by decide)⟩⟩
    · exact ⟨(0, 0), fun h => absurd h hi⟩
  obtain ⟨ad, had⟩ := Classical.axiomOfChoice each
  refine ⟨fun i => (ad i).1, fun i => (ad i).2, fun i hi => (had i hi).1, fun i q hq => ?_, va_Zof (hts _ (List.mem_of_getElem? (i := 508) (by decide +kernel))) (hts _ (List.mem_of_getElem? (i := 114) (by decide +kernel))) (va_eqt x6) hA, va_Zqof (hts _ (List.mem_of_getElem? (i := 524) (by decide +kernel))) (hts _ (List.mem_of_getElem? (i := 116) (by decide +kernel))) x7 hA⟩
  have hi : i < 13 := by
    have := (List.getElem?_eq_some_iff.mp hq).1
    simpa [jstr] using this
  exact vk_R.of (law_ref hts i q hq) (by rw [← jtm_of hq]; exact (had i hi).2)
