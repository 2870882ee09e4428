/-! THE H LAYER: contracts, calls, returns (own work) -/
def hPost (D : va_G) (G : tG) (q : Nat × Nat) (post : Option mV → mA → Prop) : Option Value → jW → Prop := fun v w' => ∃ (v9 : Option mV) (A' : mA), v = v9.map (mc hid) ∧ post v9 A' ∧ hW D G A' w' ∧ w'.2 = q
def hMet (l : Launch) (D : va_G) (B : Nat) (H0 : Heap) (G : tG) (y : MethodName) (cc : ByteArray) (maxL : Nat) (ret : Option FieldType) (fr lo : Nat) (args : List mV) (A : mA) (post : Option mV → mA → Prop) : Prop :=
  ∀ w, hW D G A w → jMet l D B H0 y cc maxL ret fr lo 0 0 (mSt hid args) w (hPost D G w.2 post)
section H2
variable {g : jG} {D : va_G} {G : tG} {q : Nat × Nat} {A : mA} {cc : ByteArray} {nL pc : Nat} {own : String} {L : List (Nat × mV)} {st : List mV} {l : Launch} {B : Nat} {H0 : Heap} {y0 : MethodName} {rm : Room} {post : Option mV → mA → Prop}
theorem h_met {y : MethodName} {maxL : Nat} {ret : Option FieldType} {av : List mV} {fr lo : Nat} (hy : plainName y.cls = true) (hav : Nat.ble (mcsum av) maxL = true)
    (body : ∀ (g : jG) (q : Nat × Nat), jX g cc maxL y.cls D → jRm g q.1 q.2 { frames := fr, cells := 0, slots := 0, locals := lo } → jY g l B H0 y → jEnd g (hPost D G q post) 0 0 ret → HM g D G q A 0 (margs 0 av) []) : hMet l D B H0 G y cc maxL ret fr lo av A post := fun w hw => by
  refine j_met hy (by rw [mlg]; exact Nat.le_of_ble_eq_true hav) (fun g C Rm Y E => ?_)
  rw [margs_ok]
  exact body g w.2 C Rm Y E w hw rfl
theorem hrm {w : jW} (h : w.2 = q) (Rm : jRm g q.1 q.2 rm) : w.2.1 + 0 ≤ q.1 + rm.cells ∧ w.2.2 + 0 ≤ q.2 + rm.slots := by
  rw [h]; omega
theorem hkk {w : jW} {rest : List mV} (hr : w.2 = q) (kk : ∀ v9 A', post v9 A' → HM g D G q A' (pc + 3) L (v9.toList ++ rest)) : ∀ (v : Option Value) (w' : jW), hPost D G w.2 post v w' → JJ g w' (pc + 3) (mL hid L) (v.toList ++ mSt hid rest) := by
  rintro v w' ⟨v9, A', rfl, hp, hw', hf⟩
  have k := kk v9 A' hp w' hw' (hf.trans hr)
  cases v9 with
  | none => exact k
  | some x => exact k
theorem h_callS (C : jX g cc nL own D) (Rm : jRm g q.1 q.2 rm) (Y : jY g l B H0 y0) {idx n maxL fr lo : Nat} {y : MethodName} {bytes : ByteArray} {ret : Option FieldType} (As rest : List mV) (hM : hMet l D B H0 G y bytes maxL ret fr lo As A post) (hc : jcS own idx y bytes maxL ret n) (hd : decode cc pc = .ok (.invokestatic idx, 3)) (hn : As.length = n) (hst : st = As.reverse ++ rest) (h8 : Nat.ble (mcsum rest) 8 = true) (hR : fr + 1 ≤ rm.frames ∧ 8 + (maxL + 11) + lo ≤ rm.locals)
    (kk : ∀ v9 A', post v9 A' → HM g D G q A' (pc + 3) L (v9.toList ++ rest)) : HM g D G q A pc L st := fun w hw hr => by
  subst hst
  have e : mSt hid (As.reverse ++ rest) = (mSt hid As).reverse ++ mSt hid rest := by simp [mSt]
  rw [e]
  exact j_callS C Rm Y (mSt hid rest) (hM w hw) hc hd (by simp [mSt, hn]) rfl (by rw [mcsum_ok]; exact Nat.le_of_ble_eq_true h8) hR (hrm hr Rm) (hkk hr kk)
theorem h_callSn (C : jX g cc nL own D) (Rm : jRm g q.1 q.2 rm) (Y : jY g l B H0 y0) {idx n maxL fr lo : Nat} {y : MethodName} {bytes : ByteArray} {ret : Option FieldType} (As rest : List mV) (hM : hMet l D B H0 G y bytes maxL ret fr lo As A post) (hc : jcSn own idx y bytes maxL ret n) (hd : decode cc pc = .ok (.invokestatic idx, 3)) (hn : As.length = n) (hst : st = As.reverse ++ rest) (h8 : Nat.ble (mcsum rest) 8 = true) (hR : fr + 1 ≤ rm.frames ∧ 8 + (maxL + 11) + lo ≤ rm.locals)
    (kk : ∀ v9 A', post v9 A' → HM g D G q A' (pc + 3) L (v9.toList ++ rest)) : HM g D G q A pc L st := fun w hw hr => by
  subst hst
  have e : mSt hid (As.reverse ++ rest) = (mSt hid As).reverse ++ mSt hid rest := by simp [mSt]
  rw [e]
  exact j_callSn C Rm Y (mSt hid rest) (hM w hw) hc hd (by simp [mSt, hn]) rfl (by rw [mcsum_ok]; exact Nat.le_of_ble_eq_true h8) hR (hrm hr Rm) (hkk hr kk)
theorem h_callV (C : jX g cc nL own D) (Rm : jRm g q.1 q.2 rm) (Y : jY g l B H0 y0) {idx n maxL fr lo τ a ci : Nat} {fs : List vT} {r : vw_C} {y : MethodName} {bytes : ByteArray} {ret : Option FieldType} (As rest : List mV) (hM : hMet l D B H0 G y bytes maxL ret fr lo (vr τ a :: As) A post) (hc : jcV own idx y bytes maxL ret n) (hg : G a = some τ) (ho : tyO τ = some (ci, fs)) (hci : vwCl[ci]? = some r) (hrc : r.1 = y.cls) (hd : decode cc pc = .ok (.invokevirtual idx, 3)) (hn : As.length = n) (hst : st = As.reverse ++ vr τ a :: rest) (h8 : Nat.ble (mcsum rest) 8 = true) (hR : fr + 1 ≤ rm.frames ∧ 8 + (maxL + 11) + lo ≤ rm.locals)
    (kk : ∀ v9 A', post v9 A' → HM g D G q A' (pc + 3) L (v9.toList ++ rest)) : HM g D G q A pc L st := fun w hw hr => by
  subst hst
  obtain ⟨V, h1, h2⟩ := (hcell_O ho).mp (hw a τ hg)
  have e : mSt hid (As.reverse ++ vr τ a :: rest) = (mSt hid As).reverse ++ .ref a :: mSt hid rest := by
    simp [mSt, mc]
  rw [e]
  exact j_callV C Rm Y (mSt hid As) (mSt hid rest) (hM w hw) hc hci hrc h1 hd (by simp [mSt, hn]) rfl (by rw [mcsum_ok]; exact Nat.le_of_ble_eq_true h8) hR (hrm hr Rm) (hkk hr kk)
-- returns
theorem hhc {w : jW} (h : w.2 = q) : w.2.1 ≤ q.1 + 0 ∧ w.2.2 ≤ q.2 + 0 := by rw [h]; omega
theorem h_iret (C : jX g cc nL own D) (Rm : jRm g q.1 q.2 rm) (E : jEnd g (hPost D G q post) 0 0 (some .int)) {x : Int} (hd : decode cc pc = .ok (.ireturn, 1)) (hp : post (some (vi x)) A) : HM g D G q A pc L [vi x] := fun w hw hr => j_iret C Rm E hd ⟨some (vi x), A, rfl, hp, hw, hr⟩ (hhc hr).1 (hhc hr).2
theorem h_zret (C : jX g cc nL own D) (Rm : jRm g q.1 q.2 rm) (E : jEnd g (hPost D G q post) 0 0 (some .boolean)) {x : Int} (hz : x = 0 ∨ x = 1) (hd : decode cc pc = .ok (.ireturn, 1)) (hp : post (some (vi x)) A) : HM g D G q A pc L [vi x] := fun w hw hr => j_zret C Rm E (zN hz).1 hd ⟨some (vi x), A, rfl, hp, hw, hr⟩ (hhc hr).1 (hhc hr).2
theorem h_lret (C : jX g cc nL own D) (Rm : jRm g q.1 q.2 rm) (E : jEnd g (hPost D G q post) 0 0 (some .long)) {x : Int} (hd : decode cc pc = .ok (.lreturn, 1)) (hp : post (some (vl x)) A) : HM g D G q A pc L [vl x] := fun w hw hr => j_lret C Rm E hd ⟨some (vl x), A, rfl, hp, hw, hr⟩ (hhc hr).1 (hhc hr).2
theorem h_vret (C : jX g cc nL own D) (Rm : jRm g q.1 q.2 rm) (E : jEnd g (hPost D G q post) 0 0 none) (hd : decode cc pc = .ok (.return_, 1)) (hp : post none A) : HM g D G q A pc L [] := fun w hw hr => j_vret C Rm E hd ⟨none, A, rfl, hp, hw, hr⟩ (hhc hr).1 (hhc hr).2
theorem h_aret (C : jX g cc nL own D) (Rm : jRm g q.1 q.2 rm) {Cn : String} (E : jEnd g (hPost D G q post) 0 0 (some (.object Cn))) {f k : Nat} (hd : decode cc pc = .ok (.areturn, 1)) (hp : post (some (vr f k)) A) : HM g D G q A pc L [vr f k] := fun w hw hr => j_aret C Rm E (Or.inr ⟨_, rfl⟩) hd ⟨some (vr f k), A, rfl, hp, hw, hr⟩ (hhc hr).1 (hhc hr).2
-- Math
theorem h_mmax (C : jX g cc nL own D) (Rm : jRm g q.1 q.2 rm) {idx : Nat} {x y : Int} (hc : jcM own idx Lib.Math.max.name Lib.Math.max.code) (hd : decode cc pc = .ok (.invokestatic idx, 3)) (hf : 1 ≤ rm.frames) (hl : mcsum st + 13 ≤ rm.locals) (hx : -2147483648 ≤ x ∧ x ≤ 2147483647) (hy : -2147483648 ≤ y ∧ y ≤ 2147483647) (kk : ∀ z : Int, (x < y ∧ z = y ∨ ¬ x < y ∧ z = x) → HM g D G q A (pc + 3) L (vi z :: st)) : HM g D G q A pc L (vi y :: vi x :: st) := fun w hw hr => by
  refine j_mmax C Rm hc hd hf (by rw [mcsum_ok]; exact hl) (by have := (hhc hr).1; omega) (by have := (hhc hr).2; omega) ?_
  by_cases h : x < y
  · rw [if_pos ((iLt hx hy).mpr h)]
    exact kk y (Or.inl ⟨h, rfl⟩) w hw hr
  · rw [if_neg (fun q => h ((iLt hx hy).mp q))]
    exact kk x (Or.inr ⟨h, rfl⟩) w hw hr
theorem h_mmin (C : jX g cc nL own D) (Rm : jRm g q.1 q.2 rm) {idx : Nat} {x y : Int} (hc : jcM own idx Lib.Math.min.name Lib.Math.min.code) (hd : decode cc pc = .ok (.invokestatic idx, 3)) (hf : 1 ≤ rm.frames) (hl : mcsum st + 13 ≤ rm.locals) (hx : -2147483648 ≤ x ∧ x ≤ 2147483647) (hy : -2147483648 ≤ y ∧ y ≤ 2147483647) (kk : ∀ z : Int, (y < x ∧ z = y ∨ ¬ y < x ∧ z = x) → HM g D G q A (pc + 3) L (vi z :: st)) : HM g D G q A pc L (vi y :: vi x :: st) := fun w hw hr => by
  refine j_mmin C Rm hc hd hf (by rw [mcsum_ok]; exact hl) (by have := (hhc hr).1; omega) (by have := (hhc hr).2; omega) ?_
  by_cases h : y < x
  · rw [if_pos ((iLt hy hx).mpr h)]
    exact kk y (Or.inl ⟨h, rfl⟩) w hw hr
  · rw [if_neg (fun q => h ((iLt hy hx).mp q))]
    exact kk x (Or.inr ⟨h, rfl⟩) w hw hr
end H2
/-- the content of a world -/
def vrd : Value → Int
  | .int x => x.toInt
  | .long x => x.toInt
  | .ref r => (r : Int)
  | _ => -1
def hread (w : jW) : mA := fun _ a j => match w.1 a with
  | some (.inl (_, _, .inl f)) => (f j).toInt
  | some (.inl (_, _, .inr (.inl f))) => (f j).toInt
  | some (.inl (_, _, .inr (.inr (.inr (.inr f))))) => (match f j with
    | some r => (r : Int)
    | none => -1)
  | some (.inr (_, V)) => vrd (V j)
  | _ => 0
theorem hv_read {G : tG} {t : vT} {v : Value} (h : vok G t v) : hv G t (vrd v) v := by
  unfold vok at h
  unfold hv
  split at h
  · rename_i e
    rw [e]
    obtain ⟨x, rfl, -⟩ := h
    exact congrArg Value.int (Int32.ofInt_toInt x).symm
  · rename_i e
    rw [e]
    obtain ⟨x, rfl, -⟩ := h
    exact congrArg Value.int (Int32.ofInt_toInt x).symm
  · rename_i e
    rw [e]
    obtain ⟨x, rfl⟩ := h
    exact congrArg Value.long (Int64.ofInt_toInt x).symm
  · rename_i e
    rw [e]
    obtain ⟨x, rfl, -⟩ := h
    exact congrArg Value.long (Int64.ofInt_toInt x).symm
  · rename_i e
    rw [e]
    obtain ⟨r, rfl, h2⟩ := h
    exact ⟨rfl, h2⟩
  · rename_i e
    rw [e]
    rcases h with rfl | ⟨r, rfl, h2⟩
    · exact Or.inl ⟨by show (-1 : Int) < 0; decide, rfl⟩
    · exact Or.inr ⟨Int.natCast_nonneg r, rfl, h2⟩
  · rename_i e
    rw [e]
    trivial
  · rename_i e
    rw [e]
    subst h
    exact congrArg Value.long (Int64.ofInt_toInt 0).symm
  · exact h.elim
theorem hW_read {D : va_G} {G : tG} {w : jW} (h : WOK D G w) : hW D G (hread w) w := fun a τ hg => by
  have hc := h a τ hg
  unfold tcell at hc
  unfold hcell
  split at hc
  · rename_i o ho
    rw [ho]
    obtain ⟨V, hV, hF⟩ := hc
    refine ⟨V, hV, fun k t hk => ?_⟩
    have e : hread w τ a k = vrd (V k) := by
      unfold hread
      rw [hV]
    rw [e]
    exact hv_read (hF k t hk)
  · rename_i ho
    rw [ho]
    split at hc
    · rename_i r hr
      rw [hr]
      dsimp only
      split at hc
      · rename_i e
        rw [e]
        obtain ⟨f, hf, -⟩ := hc
        refine ⟨f, hf, fun j _ => ?_⟩
        have e9 : hread w τ a j = (f j).toInt := by
          unfold hread
          rw [hf]
        rw [e9]
        exact (Int32.ofInt_toInt _).symm
      · rename_i e
        rw [e]
        obtain ⟨f, hf⟩ := hc
        refine ⟨f, hf, fun j _ => ?_⟩
        have e9 : hread w τ a j = (f j).toInt := by
          unfold hread
          rw [hf]
        rw [e9]
        exact (Int64.ofInt_toInt _).symm
      · rename_i e
        rw [e]
        obtain ⟨f, hf, -⟩ := hc
        refine ⟨f, hf, fun j _ => ?_⟩
        have e9 : hread w τ a j = (f j).toInt := by
          unfold hread
          rw [hf]
        rw [e9]
        exact (Int32.ofInt_toInt _).symm
      · rename_i t e0 e1 e2
        obtain ⟨f, hf, hF⟩ := hc
        have goal : ∃ f, w.1 a = some (aR D r.1 r.2.1 f) ∧ ∀ j, j < r.2.1 → hv G r.2.2 (hread w τ a j) (va_rf (f j)) := by
          refine ⟨f, hf, fun j hj => ?_⟩
          have e9 : hread w τ a j = vrd (va_rf (f j)) := by
            unfold hread
            rw [hf]
            show (match f j with | some r => (r : Int) | none => -1) = _
            cases f j <;> rfl
          rw [e9]
          exact hv_read (hF j hj)
        split
        · rename_i q
          exact absurd q e0
        · rename_i q
          exact absurd q e1
        · rename_i q
          exact absurd q e2
        · exact goal
    · exact hc.elim
theorem jat_arr {D : va_G} {a n n' : Nat} {c c' : ClassId} {x x' : (Nat → Int32) ⊕ (Nat → Int64) ⊕ (Nat → UInt32) ⊕ (Nat → UInt64) ⊕ (Nat → Option Nat)} {H : Heap} (h : jat D a (.inl (c, n, x)) H) (h' : jat D a (.inl (c', n', x')) H) : vp_cell c (n, x) = vp_cell c' (n', x') := by
  have h : H[a]? = some (vp_cell c (n, x)) := h
  have h' : H[a]? = some (vp_cell c' (n', x')) := h'
  rw [h] at h'
  exact Option.some.inj h'
