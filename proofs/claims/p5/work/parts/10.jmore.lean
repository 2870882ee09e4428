/-! THE J LAYER: comparing longs, Math, System.arraycopy (own work) -/
section J8
variable {g : jG} {w : jW} {cc : ByteArray} {nL pc : Nat} {own : String} {D : va_G} {L : List (Nat × Value)} {st : List Value} {k0 n0 : Nat} {rm : Room}
theorem j_lcmp (C : jX g cc nL own D) {x y : Int64} (hd : decode cc pc = .ok (.lcmp, 1)) (kk : JJ g w (pc + 1) L (.int (lg_cmp x y) :: st)) : JJ g w pc L (.long y :: .long x :: st) := by
  obtain ⟨⟨hx, hb, -⟩, rfl, -⟩ := C
  exact fun H locs ls h1 h2 h3 h4 h5 => W.lcmp hx hb hd (kk H locs ls h1 h2 h3 h4 h5)
def jcM (own : String) (idx : Nat) (y : MethodName) (b : ByteArray) : Prop := Cond.methodLink own idx y ∈ jwd ∧ Cond.static y ∈ jwd ∧ Cond.initialized "java/lang/Math" ∈ jwd ∧ Cond.code y b 2 (some .int) ∈ jwd
theorem j_mmin (C : jX g cc nL own D) (Rm : jRm g k0 n0 rm) {idx : Nat} {x y : Int32} (hc : jcM own idx Lib.Math.min.name Lib.Math.min.code) (hd : decode cc pc = .ok (.invokestatic idx, 3)) (hf : 1 ≤ rm.frames) (hl : (st.map fun v => v.category).sum + 13 ≤ rm.locals) (h1c : w.2.1 ≤ k0 + rm.cells) (h2c : w.2.2 ≤ n0 + rm.slots)
    (kk : JJ g w (pc + 3) L (.int (if y < x then y else x) :: st)) : JJ g w pc L (.int y :: .int x :: st) := by
  obtain ⟨⟨hx, hb, hml, ho, hts, hK, -⟩, rfl, rfl, rfl, rfl⟩ := C
  obtain ⟨rfl, rfl, rfl⟩ := Rm
  intro H locs ls h1 h2 h3 h4 h5
  exact va_mmin hx hb (hml.trans h5.1.symm) ho (hts _ hc.1) (hts _ hc.2.1) (hts _ hc.2.2.1) (hts _ hc.2.2.2) hf hl (by omega) (by omega) hd (kk H locs ls h1 h2 h3 h4 h5)
theorem j_mmax (C : jX g cc nL own D) (Rm : jRm g k0 n0 rm) {idx : Nat} {x y : Int32} (hc : jcM own idx Lib.Math.max.name Lib.Math.max.code) (hd : decode cc pc = .ok (.invokestatic idx, 3)) (hf : 1 ≤ rm.frames) (hl : (st.map fun v => v.category).sum + 13 ≤ rm.locals) (h1c : w.2.1 ≤ k0 + rm.cells) (h2c : w.2.2 ≤ n0 + rm.slots)
    (kk : JJ g w (pc + 3) L (.int (if x < y then y else x) :: st)) : JJ g w pc L (.int y :: .int x :: st) := by
  obtain ⟨⟨hx, hb, hml, ho, hts, hK, -⟩, rfl, rfl, rfl, rfl⟩ := C
  obtain ⟨rfl, rfl, rfl⟩ := Rm
  intro H locs ls h1 h2 h3 h4 h5
  exact va_mmax hx hb (hml.trans h5.1.symm) ho (hts _ hc.1) (hts _ hc.2.1) (hts _ hc.2.2.1) (hts _ hc.2.2.2) hf hl (by omega) (by omega) hd (kk H locs ls h1 h2 h3 h4 h5)
def jcY (own : String) (idx : Nat) : Prop := Cond.methodLink own idx arraycopyName ∈ jwd ∧ Cond.native arraycopyName ∈ jwd ∧ Cond.static arraycopyName ∈ jwd ∧ Cond.initialized "java/lang/System" ∈ jwd
theorem jclN {z : Int32} (h : ¬ z < 0) : z.toInt = (z.toNatClampNeg : Int) := by
  have hz0 : (0 : Int) ≤ z.toInt := by
    have := Int32.not_lt.mp h
    simpa using Int32.le_iff_toInt_le.mp this
  show z.toInt = ((z.toInt.toNat : Nat) : Int)
  omega
theorem j_copyi (C : jX g cc nL own D) (Rm : jRm g k0 n0 rm) {idx a0 a m0 m1 : Nat} {f f1 : Nat → Int32} {sp dp n : Int32} (hc : jcY own idx) (hd : decode cc pc = .ok (.invokestatic idx, 3)) (ha0 : w.1 a0 = some (aI D m0 f)) (ha1 : w.1 a = some (aI D m1 f1)) (q1 : ¬ sp < 0) (q2 : ¬ dp < 0) (q3 : ¬ n < 0) (q4 : sp.toNatClampNeg + n.toNatClampNeg ≤ m0) (q5 : dp.toNatClampNeg + n.toNatClampNeg ≤ m1) (hf : 1 ≤ rm.frames) (hl : (st.map fun v => v.category).sum + (nativeFrameWords "java/lang/System" "arraycopy" 5 + 11) ≤ rm.locals)
    (kk : JJ g (va_up w.1 a (some (aI D m1 (va_cpy f f1 sp.toNatClampNeg dp.toNatClampNeg n.toNatClampNeg))), w.2) (pc + 3) L st) : JJ g w pc L (.int n :: .int dp :: .ref a :: .int sp :: .ref a0 :: st) := by
  obtain ⟨⟨hx, hb, hml, ho, hts, hK, -⟩, rfl, rfl, rfl, rfl⟩ := C
  obtain ⟨rfl, rfl, rfl⟩ := Rm
  intro H locs ls h1 h2 h3 h4 h5
  intro T hT X
  have hc0 : H[a0]? = some (vp_cell ((jGD g).1 100) (m0, .inl f)) := h1.at ha0
  have hc1 : H[a]? = some (vp_cell ((jGD g).1 100) (m1, .inl f1)) := h1.at ha1
  obtain ⟨-, e0, hk0, cm0, hkk0⟩ := jK1 hK (k := 0) rfl m0 (fun j => .int (f j))
  obtain ⟨-, e1, hk1, cm1, hkk1⟩ := jK1 hK (k := 0) rfl m1 (fun j => .int (f1 j))
  obtain ⟨vm', X', step⟩ := X.arraycopy hx ho (hts _ hc.1) (hts _ hc.2.1) (hts _ hc.2.2.1) (hts _ hc.2.2.2) (src := a0) (dst := a) (cs := vp_cell ((jGD g).1 100) (m0, .inl f)) (cd := vp_cell ((jGD g).1 100) (m1, .inl f1)) (srcPos := sp) (destPos := dp) (n := n) (by rw [hT]; exact hc0) (by rw [hT]; exact hc1)
    (fun _ h => by cases h) (fun _ h => by cases h) (fun h => by cases h) (fun h => by cases h) hk0 hk1 hkk0 hkk1 (by simp [refKind]) q1 q2 q3
    (by rw [jclN q1, jclN q3]; show ¬ _ > ((arrV ((jGD g).1 100) m0 (fun j => .int (f j))).slots.size : Int); rw [arrV_size]; omega)
    (by rw [jclN q2, jclN q3]; show ¬ _ > ((arrV ((jGD g).1 100) m1 (fun j => .int (f1 j))).slots.size : Int); rw [arrV_size]; omega)
    (fun vm₁ _ i hi => by
      have e : (vp_cell ((jGD g).1 100) (m0, .inl f)).slots.getD (sp.toNatClampNeg + i) .null = .int (f (sp.toNatClampNeg + i)) := by
        show (arrV ((jGD g).1 100) m0 (fun j => .int (f j))).slots.getD _ _ = _
        rw [Array.getD_eq_getD_getElem?, arrV_read _ _ (by omega)]
        rfl
      refine ⟨?_, ?_⟩
      · rw [e]; rfl
      · rw [e]; exact trivial)
    (g := F0 (jGm g) pc ls (.int n :: .int dp :: .ref a :: .int sp :: .ref a0 :: st)) rfl (h5.1.trans hml.symm) (rest := st) rfl (by rw [hb]; exact hd) hf (by show 2 * 0 + _ + _ ≤ _; omega)
  have e1 : copied (vp_cell ((jGD g).1 100) (m0, .inl f)) (vp_cell ((jGD g).1 100) (m1, .inl f1)) sp dp n = vp_cell ((jGD g).1 100) (m1, .inl (va_cpy f f1 sp.toNatClampNeg dp.toNatClampNeg n.toNatClampNeg)) := va_copied (fun z => .int z) _ _ f f1 q4
  rw [e1] at X' step
  have hla : a < H.size := (Array.getElem?_eq_some_iff.mp hc1).1
  have hheap : ((T.setVm vm').setCell a (vp_cell ((jGD g).1 100) (m1, .inl (va_cpy f f1 sp.toNatClampNeg dp.toNatClampNeg n.toNatClampNeg)))).heap = H.setIfInBounds a (vp_cell ((jGD g).1 100) (m1, .inl (va_cpy f f1 sp.toNatClampNeg dp.toNatClampNeg n.toNatClampNeg))) := by rw [← hT]; rfl
  have oq : ∀ q : Nat, q ≠ a → (H.setIfInBounds a (vp_cell ((jGD g).1 100) (m1, .inl (va_cpy f f1 sp.toNatClampNeg dp.toNatClampNeg n.toNatClampNeg))))[q]? = H[q]? := fun q hq => by simp [Array.getElem?_setIfInBounds, Ne.symm hq]
  have hself : (H.setIfInBounds a (vp_cell ((jGD g).1 100) (m1, .inl (va_cpy f f1 sp.toNatClampNeg dp.toNatClampNeg n.toNatClampNeg))))[a]? = some (vp_cell ((jGD g).1 100) (m1, .inl (va_cpy f f1 sp.toNatClampNeg dp.toNatClampNeg n.toNatClampNeg))) := by simp [Array.getElem?_setIfInBounds, hla]
  have hH := h1.set (e := aI (jGD g) m1 (va_cpy f f1 sp.toNatClampNeg dp.toNatClampNeg n.toNatClampNeg)) ha1 (by simp) hc1 hself (by rw [vp_cell_i, vp_cell_i]; exact jarrsz _ _ _ _) oq hself
  obtain ⟨t, a1, b1⟩ := kk _ _ ls hH h2 h3 (fun q hq => by
    rcases List.mem_append.mp hq with h | h
    · exact h4 q h
    · obtain ⟨z, -, hz⟩ := List.mem_map.mp h
      rw [← hz]
      exact h1.le ha1) h5 _ hheap X'
  exact ⟨t, step t a1, b1⟩
theorem j_copyl (C : jX g cc nL own D) (Rm : jRm g k0 n0 rm) {idx a0 a m0 m1 : Nat} {f f1 : Nat → Int64} {sp dp n : Int32} (hc : jcY own idx) (hd : decode cc pc = .ok (.invokestatic idx, 3)) (ha0 : w.1 a0 = some (aJ D m0 f)) (ha1 : w.1 a = some (aJ D m1 f1)) (q1 : ¬ sp < 0) (q2 : ¬ dp < 0) (q3 : ¬ n < 0) (q4 : sp.toNatClampNeg + n.toNatClampNeg ≤ m0) (q5 : dp.toNatClampNeg + n.toNatClampNeg ≤ m1) (hf : 1 ≤ rm.frames) (hl : (st.map fun v => v.category).sum + (nativeFrameWords "java/lang/System" "arraycopy" 5 + 11) ≤ rm.locals)
    (kk : JJ g (va_up w.1 a (some (aJ D m1 (va_cpy f f1 sp.toNatClampNeg dp.toNatClampNeg n.toNatClampNeg))), w.2) (pc + 3) L st) : JJ g w pc L (.int n :: .int dp :: .ref a :: .int sp :: .ref a0 :: st) := by
  obtain ⟨⟨hx, hb, hml, ho, hts, hK, -⟩, rfl, rfl, rfl, rfl⟩ := C
  obtain ⟨rfl, rfl, rfl⟩ := Rm
  intro H locs ls h1 h2 h3 h4 h5
  intro T hT X
  have hc0 : H[a0]? = some (vp_cell ((jGD g).1 101) (m0, .inr (.inl f))) := h1.at ha0
  have hc1 : H[a]? = some (vp_cell ((jGD g).1 101) (m1, .inr (.inl f1))) := h1.at ha1
  obtain ⟨-, e0, hk0, cm0, hkk0⟩ := jK1 hK (k := 1) rfl m0 (fun j => .long (f j))
  obtain ⟨-, e1, hk1, cm1, hkk1⟩ := jK1 hK (k := 1) rfl m1 (fun j => .long (f1 j))
  obtain ⟨vm', X', step⟩ := X.arraycopy hx ho (hts _ hc.1) (hts _ hc.2.1) (hts _ hc.2.2.1) (hts _ hc.2.2.2) (src := a0) (dst := a) (cs := vp_cell ((jGD g).1 101) (m0, .inr (.inl f))) (cd := vp_cell ((jGD g).1 101) (m1, .inr (.inl f1))) (srcPos := sp) (destPos := dp) (n := n) (by rw [hT]; exact hc0) (by rw [hT]; exact hc1)
    (fun _ h => by cases h) (fun _ h => by cases h) (fun h => by cases h) (fun h => by cases h) hk0 hk1 hkk0 hkk1 (by simp [refKind]) q1 q2 q3
    (by rw [jclN q1, jclN q3]; show ¬ _ > ((arrV ((jGD g).1 101) m0 (fun j => .long (f j))).slots.size : Int); rw [arrV_size]; omega)
    (by rw [jclN q2, jclN q3]; show ¬ _ > ((arrV ((jGD g).1 101) m1 (fun j => .long (f1 j))).slots.size : Int); rw [arrV_size]; omega)
    (fun vm₁ _ i hi => by
      have e : (vp_cell ((jGD g).1 101) (m0, .inr (.inl f))).slots.getD (sp.toNatClampNeg + i) .null = .long (f (sp.toNatClampNeg + i)) := by
        show (arrV ((jGD g).1 101) m0 (fun j => .long (f j))).slots.getD _ _ = _
        rw [Array.getD_eq_getD_getElem?, arrV_read _ _ (by omega)]
        rfl
      refine ⟨?_, ?_⟩
      · rw [e]; rfl
      · rw [e]; exact trivial)
    (g := F0 (jGm g) pc ls (.int n :: .int dp :: .ref a :: .int sp :: .ref a0 :: st)) rfl (h5.1.trans hml.symm) (rest := st) rfl (by rw [hb]; exact hd) hf (by show 2 * 0 + _ + _ ≤ _; omega)
  have e1 : copied (vp_cell ((jGD g).1 101) (m0, .inr (.inl f))) (vp_cell ((jGD g).1 101) (m1, .inr (.inl f1))) sp dp n = vp_cell ((jGD g).1 101) (m1, .inr <| .inl (va_cpy f f1 sp.toNatClampNeg dp.toNatClampNeg n.toNatClampNeg)) := va_copied (fun z => .long z) _ _ f f1 q4
  rw [e1] at X' step
  have hla : a < H.size := (Array.getElem?_eq_some_iff.mp hc1).1
  have hheap : ((T.setVm vm').setCell a (vp_cell ((jGD g).1 101) (m1, .inr <| .inl (va_cpy f f1 sp.toNatClampNeg dp.toNatClampNeg n.toNatClampNeg)))).heap = H.setIfInBounds a (vp_cell ((jGD g).1 101) (m1, .inr <| .inl (va_cpy f f1 sp.toNatClampNeg dp.toNatClampNeg n.toNatClampNeg))) := by rw [← hT]; rfl
  have oq : ∀ q : Nat, q ≠ a → (H.setIfInBounds a (vp_cell ((jGD g).1 101) (m1, .inr <| .inl (va_cpy f f1 sp.toNatClampNeg dp.toNatClampNeg n.toNatClampNeg))))[q]? = H[q]? := fun q hq => by simp [Array.getElem?_setIfInBounds, Ne.symm hq]
  have hself : (H.setIfInBounds a (vp_cell ((jGD g).1 101) (m1, .inr <| .inl (va_cpy f f1 sp.toNatClampNeg dp.toNatClampNeg n.toNatClampNeg))))[a]? = some (vp_cell ((jGD g).1 101) (m1, .inr <| .inl (va_cpy f f1 sp.toNatClampNeg dp.toNatClampNeg n.toNatClampNeg))) := by simp [Array.getElem?_setIfInBounds, hla]
  have hH := h1.set (e := aJ (jGD g) m1 (va_cpy f f1 sp.toNatClampNeg dp.toNatClampNeg n.toNatClampNeg)) ha1 (by simp) hc1 hself (by rw [vp_cell_l, vp_cell_l]; exact jarrsz _ _ _ _) oq hself
  obtain ⟨t, a1, b1⟩ := kk _ _ ls hH h2 h3 (fun q hq => by
    rcases List.mem_append.mp hq with h | h
    · exact h4 q h
    · obtain ⟨z, -, hz⟩ := List.mem_map.mp h
      rw [← hz]
      exact h1.le ha1) h5 _ hheap X'
  exact ⟨t, step t a1, b1⟩
end J8
