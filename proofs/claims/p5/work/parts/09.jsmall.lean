/-! THE J LAYER: small rows for the walks (own work) -/
theorem jnv {g : jG} {w : jW} {pc : Nat} {L : List (Nat × Value)} {st : List Value} (h : ∀ x : jW, x = w → JJ g x pc L st) : JJ g w pc L st := h w rfl
/-- what a write leaves -/
theorem jus {w w1 : jW} {a : Nat} {e : jEl} {p : Nat × Nat} (h : w1 = (va_up w.1 a (some e), p)) : w1.1 a = some e := by rw [h]; exact va_up_self _ _ _
theorem jun {w w1 : jW} {a b : Nat} {e : jEl} {r : Option jEl} {p : Nat × Nat} (h : w1 = (va_up w.1 a (some e), p)) (hb : w.1 b = r) (hn : b ≠ a) : w1.1 b = r := by rw [h]; exact (va_up_ne _ _ hn).trans hb
theorem jk0 {w0 w w1 : jW} {a c s : Nat} {e : jEl} (h : w1 = (va_up w.1 a (some e), w.2)) (hc : w.2.1 = w0.2.1 + c ∧ w.2.2 = w0.2.2 + s) : w1.2.1 = w0.2.1 + c ∧ w1.2.2 = w0.2.2 + s := by rw [h]; exact hc
theorem jk1 {w0 w w1 : jW} {a c s n : Nat} {e : jEl} (h : w1 = (va_up w.1 a (some e), w.2.1 + 1, w.2.2 + n)) (hc : w.2.1 = w0.2.1 + c ∧ w.2.2 = w0.2.2 + s) : w1.2.1 = w0.2.1 + (c + 1) ∧ w1.2.2 = w0.2.2 + (s + n) := by
  rw [h]
  exact ⟨by show w.2.1 + 1 = _; omega, by show w.2.2 + n = _; omega⟩
theorem jkz (w : jW) : w.2.1 = w.2.1 + 0 ∧ w.2.2 = w.2.2 + 0 := ⟨rfl, rfl⟩
/-- cells of unlike contents are apart -/
theorem jne {w : jW} {a b : Nat} {e f : jEl} (ha : w.1 a = some e) (hb : w.1 b = some f) (h : e ≠ f) : a ≠ b := fun q => h (Option.some.inj (ha.symm.trans ((congrArg w.1 q).trans hb)))
theorem jneO {w : jW} {a b i j : Nat} {e f : Nat → Value} (ha : w.1 a = some (.inr (i, e))) (hb : w.1 b = some (.inr (j, f))) (h : i ≠ j) : a ≠ b := jne ha hb (fun q => h (congrArg Prod.fst (Sum.inr.inj q)))
theorem jneOA {w : jW} {a b i : Nat} {e : Nat → Value} {x : ClassId × vp_A} (ha : w.1 a = some (.inr (i, e))) (hb : w.1 b = some (.inl x)) : a ≠ b := jne ha hb (fun q => by cases q)
theorem jneAO {w : jW} {a b i : Nat} {e : Nat → Value} {x : ClassId × vp_A} (ha : w.1 a = some (.inl x)) (hb : w.1 b = some (.inr (i, e))) : a ≠ b := jne ha hb (fun q => by cases q)
theorem jneN {w : jW} {a b n m : Nat} {c d : ClassId} {x y : (Nat → Int32) ⊕ (Nat → Int64) ⊕ (Nat → UInt32) ⊕ (Nat → UInt64) ⊕ (Nat → Option Nat)} (ha : w.1 a = some (.inl (c, n, x))) (hb : w.1 b = some (.inl (d, m, y))) (h : Nat.beq n m = false) : a ≠ b := jne ha hb (fun q => by
  have e : n = m := congrArg (fun z : ClassId × vp_A => z.2.1) (Sum.inl.inj q)
  rw [e, Nat.beq_refl] at h
  cases h)
theorem jneIJ {w : jW} {a b n m : Nat} {c d : ClassId} {x : Nat → Int32} {y : (Nat → Int64) ⊕ (Nat → UInt32) ⊕ (Nat → UInt64) ⊕ (Nat → Option Nat)} (ha : w.1 a = some (.inl (c, n, .inl x))) (hb : w.1 b = some (.inl (d, m, .inr y))) : a ≠ b := jne ha hb (fun q => by
  have h := congrArg (fun z : ClassId × vp_A => z.2.2) (Sum.inl.inj q)
  cases h)
/-- booleans -/
theorem jbz {p : Prop} [Decidable p] : (if p then (1 : Int32) else 0) = 0 ↔ ¬ p := by
  by_cases h : p
  · simp [h]
  · simp [h]
theorem jbo {p : Prop} [Decidable p] : ¬ (if p then (1 : Int32) else 0) = 0 ↔ p := by
  by_cases h : p
  · simp [h]
  · simp [h]
theorem jif {p : Prop} [Decidable p] (h : p) : (1 : Int32) = if p then 1 else 0 := by rw [if_pos h]
theorem jelse {p : Prop} [Decidable p] (h : ¬ p) : (0 : Int32) = if p then 1 else 0 := by rw [if_neg h]
theorem jbn (p : Prop) [Decidable p] : narrow .boolean (.int (if p then 1 else 0)) = .int (if p then 1 else 0) := by
  by_cases h : p
  · simp only [h, if_true]; rfl
  · simp only [h, if_false]; rfl
/-- ints by their numbers -/
theorem jlt {x y : Int32} : x < y ↔ x.toInt < y.toInt := Int32.lt_iff_toInt_lt
theorem jle {x y : Int32} : x ≤ y ↔ x.toInt ≤ y.toInt := Int32.le_iff_toInt_le
theorem jeq {x y : Int32} : x = y ↔ x.toInt = y.toInt := ⟨fun h => by rw [h], fun h => Int32.toInt_inj.mp h⟩
theorem jlo (x : Int32) : -2147483648 ≤ x.toInt := Int32.le_toInt x
theorem jhi (x : Int32) : x.toInt < 2147483648 := Int32.toInt_lt x
theorem jin {x : Int32} {n : Nat} (h0 : 0 ≤ x.toInt) (h1 : x.toInt < n) : vp_in x n := vp_in_iff.mpr ⟨h0, h1⟩
theorem jbf (p : Prop) [Decidable p] : fits .boolean (.int (if p then 1 else 0)) = true := by
  by_cases h : p
  · simp only [h, if_true]; rfl
  · simp only [h, if_false]; rfl
/-- what a method keeps: cells with P are as they were, no cell is lost -/
def jfr (P : Nat → Prop) (w0 w : jW) : Prop := ∀ b e, w0.1 b = some e → (P b → w.1 b = some e) ∧ ∃ e', w.1 b = some e'
theorem jfr0 {P : Nat → Prop} {w : jW} : jfr P w w := fun _ e h => ⟨fun _ => h, e, h⟩
theorem jfrW {P : Nat → Prop} {w0 w w1 : jW} {a : Nat} {e0 : jEl} {p : Nat × Nat} (eq : w1 = (va_up w.1 a (some e0), p)) (F : jfr P w0 w) (hp : ∀ b e, P b → w0.1 b = some e → b ≠ a) : jfr P w0 w1 := fun b e he => by
  rw [eq]
  refine ⟨fun hb => (va_up_ne _ _ (hp b e hb he)).trans ((F b e he).1 hb), ?_⟩
  by_cases h : b = a
  · exact ⟨e0, by rw [h]; exact va_up_self _ _ _⟩
  · obtain ⟨e', h'⟩ := (F b e he).2
    exact ⟨e', (va_up_ne _ _ h).trans h'⟩
theorem jfrN {P : Nat → Prop} {w0 w w1 : jW} {q : Nat} {e0 : jEl} {p : Nat × Nat} (eq : w1 = (va_up w.1 q (some e0), p)) (F : jfr P w0 w) (hf : ∀ a e, w.1 a = some e → a < q) : jfr P w0 w1 := jfrW eq F (fun b e hb he => Nat.ne_of_lt (hf b e ((F b e he).1 hb)))
theorem jfrL {P : Nat → Prop} {w0 w : jW} {q : Nat} (F : jfr P w0 w) (hf : ∀ a e, w.1 a = some e → a < q) : ∀ b e, w0.1 b = some e → b < q := fun b e he => by
  obtain ⟨e', h'⟩ := (F b e he).2
  exact hf b e' h'
theorem jfrT {P P2 : Nat → Prop} {w0 w w1 : jW} (F : jfr P w0 w) (G : jfr P2 w w1) (h : ∀ b e, P b → w0.1 b = some e → P2 b) : jfr P w0 w1 := fun b e he => by
  refine ⟨fun hb => (G b e ((F b e he).1 hb)).1 (h b e hb he), ?_⟩
  obtain ⟨e', h'⟩ := (F b e he).2
  exact (G b e' h').2
theorem jkT {w0 w w1 : jW} {c s c2 s2 : Nat} (h : w.2.1 = w0.2.1 + c ∧ w.2.2 = w0.2.2 + s) (h2 : w1.2.1 = w.2.1 + c2 ∧ w1.2.2 = w.2.2 + s2) : w1.2.1 = w0.2.1 + (c + c2) ∧ w1.2.2 = w0.2.2 + (s + s2) := ⟨by omega, by omega⟩
theorem jkM {w0 w w1 : jW} {M : jM} {c s c2 s2 : Nat} (eq : w1 = (M, w.2.1 + c2, w.2.2 + s2)) (h : w.2.1 = w0.2.1 + c ∧ w.2.2 = w0.2.2 + s) : w1.2.1 = w0.2.1 + (c + c2) ∧ w1.2.2 = w0.2.2 + (s + s2) := by
  rw [eq]
  exact ⟨by show w.2.1 + c2 = _; omega, by show w.2.2 + s2 = _; omega⟩
theorem JJ.bnd {g : jG} {w : jW} {pc : Nat} {L : List (Nat × Value)} {st : List Value} (h : (∀ a e, w.1 a = some e → a < jGB g + w.2.1) → JJ g w pc L st) : JJ g w pc L st := fun H locs ls h1 h2 h3 h4 h5 => h (fun a e ha => by have := (h1.at ha).lt; rw [← h1.1]; exact this) H locs ls h1 h2 h3 h4 h5
theorem jroom {a b c k K : Nat} (h : a = b + c) (hle : Nat.ble (c + k) K = true) : a + k ≤ b + K := by have := Nat.le_of_ble_eq_true hle; omega
theorem jbnd {a b c K : Nat} (h : a = b + c) (hle : Nat.ble c K = true) : a ≤ b + K := by have := Nat.le_of_ble_eq_true hle; omega
