/-! THE M LAYER: more rows (own work) -/
theorem mz (n m : Nat) : 0 * n + m = m := by rw [Nat.zero_mul, Nat.zero_add]
theorem mTy.cp {A : mA} (h : mTy A) {f k sp f' k' dp n : Nat} (hq : ∀ j j', mty f j = mty f' j') : mTy (mcp A f k sp f' k' dp n) := fun f2 k2 j => by
  unfold mcp
  by_cases q : f2 = f' ∧ k2 = k' ∧ dp ≤ j ∧ j < dp + n
  · rw [if_pos q, q.1, ← hq (sp + (j - dp)) j]
    exact h f k (sp + (j - dp))
  · rw [if_neg q]; exact h f2 k2 j
theorem mEq.cp {S : Nat → Nat → Nat → Bool} {A A' : mA} (h : mEq S A A') {f k sp f' k' dp n : Nat} (hS : ∀ j, S f' k' j = true) : mEq S A (mcp A' f k sp f' k' dp n) := fun f2 k2 j hs => by
  unfold mcp
  rw [if_neg (fun q => by rw [q.1, q.2.1, hS j] at hs; cases hs)]
  exact h f2 k2 j hs
/-- the String constants as a family -/
def mStr (D : va_G) (ad : mAd) : Prop := ∀ i, i < 13 → ad 90 i = jsK D i
section M5
variable {g : jG} {D : va_G} {ad : mAd} {w0 : jW} {A : mA} {cc : ByteArray} {nL pc : Nat} {own : String} {L : List (Nat × mV)} {st : List mV} {l : Launch} {B : Nat} {H0 : Heap} {y0 : MethodName} {rm : Room}
theorem m_ldcS (C : jX g cc nL own D) (hS : mStr D ad) {idx i : Nat} {tx : String} (hi : i < 13) (hs : jstr[i]? = some (own, idx, tx)) (hd : decode cc pc = .ok (.ldc idx, 2)) (kk : JM g D ad w0 A (pc + 2) L (vr 90 i :: st)) : JM g D ad w0 A pc L st := fun w hw hr => j_ldcS C hs hd (by rw [← hS i hi]; exact kk w hw hr)
theorem m_callVK (C : jX g cc nL own D) (Rm : jRm g w0.2.1 w0.2.2 rm) (Y : jY g l B H0 y0) (hS : mStr D ad) {idx n maxL fr lo i : Nat} {y : MethodName} {bytes : ByteArray} {ret : Option FieldType} (As rest : List mV) (v0 : Option mV) (hi : i < 13) (hcl : y.cls = "java/lang/String") (hM : ∀ w, jMet l D B H0 y bytes maxL ret fr lo 0 0 (.ref (jsK D i) :: mSt ad As) w (jsame w (v0.map (mc ad)))) (hc : jcV own idx y bytes maxL ret n) (hd : decode cc pc = .ok (.invokevirtual idx, 3)) (hn : As.length = n) (hst : st = As.reverse ++ vr 90 i :: rest) (h8 : Nat.ble (mcsum rest) 8 = true) (hR : fr + 1 ≤ rm.frames ∧ 8 + (maxL + 11) + lo ≤ rm.locals)
    (kk : JM g D ad w0 A (pc + 3) L (v0.toList ++ rest)) : JM g D ad w0 A pc L st := fun w hw hr => by
  subst hst
  have e : mSt ad (As.reverse ++ vr 90 i :: rest) = (mSt ad As).reverse ++ .ref (jsK D i) :: mSt ad rest := by
    rw [← hS i hi]
    simp [mSt, mc]
  rw [e]
  refine j_callVK C Rm Y (mSt ad As) (mSt ad rest) hi hcl (hM w) hc hd (by simp [mSt, hn]) rfl (by rw [mcsum_ok]; exact Nat.le_of_ble_eq_true h8) hR (mrm hr Rm) (fun v w' hp => ?_)
  obtain ⟨rfl, rfl⟩ := hp
  have k := kk w' hw hr
  cases v0 with
  | none => exact k
  | some x => exact k
/-- a static method of the JDK that leaves the world -/
theorem m_callSJ (C : jX g cc nL own D) (Rm : jRm g w0.2.1 w0.2.2 rm) (Y : jY g l B H0 y0) {idx n maxL fr lo : Nat} {y : MethodName} {bytes : ByteArray} {ret : Option FieldType} (As rest : List mV) {P : Option Value → Prop} (hM : ∀ w, jMet l D B H0 y bytes maxL ret fr lo 0 0 (mSt ad As) w (fun v w' => P v ∧ w' = w)) (hc : jcS own idx y bytes maxL ret n) (hd : decode cc pc = .ok (.invokestatic idx, 3)) (hn : As.length = n) (hst : st = As.reverse ++ rest) (h8 : Nat.ble (mcsum rest) 8 = true) (hR : fr + 1 ≤ rm.frames ∧ 8 + (maxL + 11) + lo ≤ rm.locals)
    (hP : ∀ v, P v → ∃ v9 : Option mV, v = v9.map (mc ad) ∧ JM g D ad w0 A (pc + 3) L (v9.toList ++ rest)) : JM g D ad w0 A pc L st := fun w hw hr => by
  subst hst
  have e : mSt ad (As.reverse ++ rest) = (mSt ad As).reverse ++ mSt ad rest := by simp [mSt]
  rw [e]
  refine j_callS C Rm Y (mSt ad rest) (hM w) hc hd (by simp [mSt, hn]) rfl (by rw [mcsum_ok]; exact Nat.le_of_ble_eq_true h8) hR (mrm hr Rm) (fun v w' hp => ?_)
  obtain ⟨hp, rfl⟩ := hp
  obtain ⟨v9, rfl, k⟩ := hP v hp
  have k := k w' hw hr
  cases v9 with
  | none => exact k
  | some x => exact k
end M5
