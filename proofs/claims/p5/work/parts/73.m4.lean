/-! THE M LAYER: contracts, calls, returns (own work) -/
/-- a contract: from the memory A, with these arguments -/
def mPost (D : va_G) (ad : mAd) (w : jW) (post : Option mV → mA → Prop) : Option Value → jW → Prop := fun v w' => ∃ (v9 : Option mV) (A' : mA), v = v9.map (mc ad) ∧ post v9 A' ∧ mW D ad A' w' ∧ mfr ad w w'
def mMet (l : Launch) (D : va_G) (B : Nat) (H0 : Heap) (ad : mAd) (y : MethodName) (cc : ByteArray) (maxL : Nat) (ret : Option FieldType) (fr lo : Nat) (args : List mV) (A : mA) (post : Option mV → mA → Prop) : Prop :=
  ∀ w, mW D ad A w → jMet l D B H0 y cc maxL ret fr lo 0 0 (mSt ad args) w (mPost D ad w post)
def margs : Nat → List mV → List (Nat × mV)
  | _, [] => []
  | k, v :: r => (k, v) :: margs (bif mcat2 v then k + 2 else k + 1) r
theorem margs_ok (ad : mAd) : ∀ (k : Nat) (l : List mV), lv_args k (mSt ad l) = mL ad (margs k l)
  | _, [] => rfl
  | k, v :: r => by
    show lv_args k (mc ad v :: mSt ad r) = (k, mc ad v) :: mL ad (margs _ r)
    rw [← margs_ok ad]
    rcases v with z | z | _ | q
    · rfl
    · rfl
    · rfl
    · rfl
def mcsum (st : List mV) : Nat := (st.map (fun v => bif mcat2 v then 2 else 1)).sum
theorem mcsum_ok (ad : mAd) (st : List mV) : ((mSt ad st).map fun v => v.category).sum = mcsum st := by
  unfold mcsum mSt
  rw [List.map_map]
  congr 1
  apply List.map_congr_left
  intro v _
  rcases v with z | z | _ | q <;> rfl
theorem mlg (ad : mAd) : ∀ l : List mV, (lg_sl (mSt ad l)).length = mcsum l
  | [] => rfl
  | v :: r => by
    show (lg_sl (mc ad v :: mSt ad r)).length = _
    have e : lg_sl (mc ad v :: mSt ad r) = (if (mc ad v).category = 2 then [.val (mc ad v), .second] else [.val (mc ad v)]) ++ lg_sl (mSt ad r) := by simp [lg_sl]
    rw [e, List.length_append, mlg ad r]
    have e2 : mcsum (v :: r) = (bif mcat2 v then 2 else 1) + mcsum r := by simp [mcsum]
    rw [e2]
    rcases v with z | z | _ | q <;> rfl
def mall (L : List (Nat × mV)) : List (Nat × mV) → Prop
  | [] => True
  | q :: l => mlk L q.1 = some q.2 ∧ mall L l
theorem mall_ok (ad : mAd) (L : List (Nat × mV)) : ∀ l, mall L l → jall (mL ad L) (mL ad l)
  | [], _ => trivial
  | q :: l, h => ⟨by show jlk (mL ad L) q.1 = _; rw [mlk_ok, h.1]; rfl, mall_ok ad L l h.2⟩
section M4
variable {g : jG} {D : va_G} {ad : mAd} {w0 : jW} {A : mA} {cc : ByteArray} {nL pc : Nat} {own : String} {L : List (Nat × mV)} {st : List mV} {l : Launch} {B : Nat} {H0 : Heap} {y0 : MethodName} {rm : Room} {post : Option mV → mA → Prop}
theorem m_met {y : MethodName} {maxL : Nat} {ret : Option FieldType} {av : List mV} {fr lo : Nat} (hy : plainName y.cls = true) (hav : Nat.ble (mcsum av) maxL = true)
    (body : ∀ (g : jG) (w0 : jW), jX g cc maxL y.cls D → jRm g w0.2.1 w0.2.2 { frames := fr, cells := 0, slots := 0, locals := lo } → jY g l B H0 y → jEnd g (mPost D ad w0 post) 0 0 ret → JM g D ad w0 A 0 (margs 0 av) []) : mMet l D B H0 ad y cc maxL ret fr lo av A post := fun w hw => by
  refine j_met hy (by rw [mlg]; exact Nat.le_of_ble_eq_true hav) (fun g C Rm Y E => ?_)
  rw [margs_ok]
  exact body g w C Rm Y E w hw mfr.rfl'
theorem mrm {w : jW} (h : mfr ad w0 w) (Rm : jRm g w0.2.1 w0.2.2 rm) : w.2.1 + 0 ≤ w0.2.1 + rm.cells ∧ w.2.2 + 0 ≤ w0.2.2 + rm.slots := by
  rw [h.1]; omega
theorem mkk {w : jW} {rest : List mV} (hr : mfr ad w0 w) (kk : ∀ v9 A', post v9 A' → JM g D ad w0 A' (pc + 3) L (v9.toList ++ rest)) : ∀ (v : Option Value) (w' : jW), mPost D ad w post v w' → JJ g w' (pc + 3) (mL ad L) (v.toList ++ mSt ad rest) := by
  rintro v w' ⟨v9, A', rfl, hp, hw', hf⟩
  have k := kk v9 A' hp w' hw' (hr.trans hf)
  cases v9 with
  | none => exact k
  | some x => exact k
theorem m_callS (C : jX g cc nL own D) (Rm : jRm g w0.2.1 w0.2.2 rm) (Y : jY g l B H0 y0) {idx n maxL fr lo : Nat} {y : MethodName} {bytes : ByteArray} {ret : Option FieldType} (As rest : List mV) (hM : mMet l D B H0 ad y bytes maxL ret fr lo As A post) (hc : jcS own idx y bytes maxL ret n) (hd : decode cc pc = .ok (.invokestatic idx, 3)) (hn : As.length = n) (hst : st = As.reverse ++ rest) (h8 : Nat.ble (mcsum rest) 8 = true) (hR : fr + 1 ≤ rm.frames ∧ 8 + (maxL + 11) + lo ≤ rm.locals)
    (kk : ∀ v9 A', post v9 A' → JM g D ad w0 A' (pc + 3) L (v9.toList ++ rest)) : JM g D ad w0 A pc L st := fun w hw hr => by
  subst hst
  have e : mSt ad (As.reverse ++ rest) = (mSt ad As).reverse ++ mSt ad rest := by simp [mSt]
  rw [e]
  exact j_callS C Rm Y (mSt ad rest) (hM w hw) hc hd (by simp [mSt, hn]) rfl (by rw [mcsum_ok]; exact Nat.le_of_ble_eq_true h8) hR (mrm hr Rm) (mkk hr kk)
theorem m_callSn (C : jX g cc nL own D) (Rm : jRm g w0.2.1 w0.2.2 rm) (Y : jY g l B H0 y0) {idx n maxL fr lo : Nat} {y : MethodName} {bytes : ByteArray} {ret : Option FieldType} (As rest : List mV) (hM : mMet l D B H0 ad y bytes maxL ret fr lo As A post) (hc : jcSn own idx y bytes maxL ret n) (hd : decode cc pc = .ok (.invokestatic idx, 3)) (hn : As.length = n) (hst : st = As.reverse ++ rest) (h8 : Nat.ble (mcsum rest) 8 = true) (hR : fr + 1 ≤ rm.frames ∧ 8 + (maxL + 11) + lo ≤ rm.locals)
    (kk : ∀ v9 A', post v9 A' → JM g D ad w0 A' (pc + 3) L (v9.toList ++ rest)) : JM g D ad w0 A pc L st := fun w hw hr => by
  subst hst
  have e : mSt ad (As.reverse ++ rest) = (mSt ad As).reverse ++ mSt ad rest := by simp [mSt]
  rw [e]
  exact j_callSn C Rm Y (mSt ad rest) (hM w hw) hc hd (by simp [mSt, hn]) rfl (by rw [mcsum_ok]; exact Nat.le_of_ble_eq_true h8) hR (mrm hr Rm) (mkk hr kk)
theorem m_callV (C : jX g cc nL own D) (Rm : jRm g w0.2.1 w0.2.2 rm) (Y : jY g l B H0 y0) {idx n maxL fr lo f k c ci a b : Nat} {r : vw_C} {y : MethodName} {bytes : ByteArray} {ret : Option FieldType} (As rest : List mV) (hM : mMet l D B H0 ad y bytes maxL ret fr lo (vr f k :: As) A post) (hc : jcV own idx y bytes maxL ret n) (hs : mfam f = (c, 4, ci, a, b)) (hk : k < c) (hci : vwCl[ci]? = some r) (hrc : r.1 = y.cls) (hd : decode cc pc = .ok (.invokevirtual idx, 3)) (hn : As.length = n) (hst : st = As.reverse ++ vr f k :: rest) (h8 : Nat.ble (mcsum rest) 8 = true) (hR : fr + 1 ≤ rm.frames ∧ 8 + (maxL + 11) + lo ≤ rm.locals)
    (kk : ∀ v9 A', post v9 A' → JM g D ad w0 A' (pc + 3) L (v9.toList ++ rest)) : JM g D ad w0 A pc L st := fun w hw hr => by
  subst hst
  obtain ⟨V, h1, h2⟩ := (mcell_O hs).mp (hw.2 f k (by show k < (mfam f).1; rw [hs]; exact hk))
  have e : mSt ad (As.reverse ++ vr f k :: rest) = (mSt ad As).reverse ++ .ref (ad f k) :: mSt ad rest := by
    simp [mSt, mc]
  rw [e]
  exact j_callV C Rm Y (mSt ad As) (mSt ad rest) (hM w hw) hc hci hrc h1 hd (by simp [mSt, hn]) rfl (by rw [mcsum_ok]; exact Nat.le_of_ble_eq_true h8) hR (mrm hr Rm) (mkk hr kk)
theorem m_loc (L' : List (Nat × mV)) (h : mall L L') (kk : JM g D ad w0 A pc L' st) : JM g D ad w0 A pc L st := fun w hw hr => JJ.loc (mL ad L') (mall_ok ad L L' h) (kk w hw hr)
-- returns
theorem mhc {w : jW} (h : mfr ad w0 w) : w.2.1 ≤ w0.2.1 + 0 ∧ w.2.2 ≤ w0.2.2 + 0 := by rw [h.1]; omega
theorem m_iret (C : jX g cc nL own D) (Rm : jRm g w0.2.1 w0.2.2 rm) (E : jEnd g (mPost D ad w0 post) 0 0 (some .int)) {x : Int} (hd : decode cc pc = .ok (.ireturn, 1)) (hp : post (some (vi x)) A) : JM g D ad w0 A pc L [vi x] := fun w hw hr => j_iret C Rm E hd ⟨some (vi x), A, rfl, hp, hw, hr⟩ (mhc hr).1 (mhc hr).2
theorem m_zret (C : jX g cc nL own D) (Rm : jRm g w0.2.1 w0.2.2 rm) (E : jEnd g (mPost D ad w0 post) 0 0 (some .boolean)) {x : Int} (hz : x = 0 ∨ x = 1) (hd : decode cc pc = .ok (.ireturn, 1)) (hp : post (some (vi x)) A) : JM g D ad w0 A pc L [vi x] := fun w hw hr => j_zret C Rm E (zN hz).1 hd ⟨some (vi x), A, rfl, hp, hw, hr⟩ (mhc hr).1 (mhc hr).2
theorem m_lret (C : jX g cc nL own D) (Rm : jRm g w0.2.1 w0.2.2 rm) (E : jEnd g (mPost D ad w0 post) 0 0 (some .long)) {x : Int} (hd : decode cc pc = .ok (.lreturn, 1)) (hp : post (some (vl x)) A) : JM g D ad w0 A pc L [vl x] := fun w hw hr => j_lret C Rm E hd ⟨some (vl x), A, rfl, hp, hw, hr⟩ (mhc hr).1 (mhc hr).2
theorem m_vret (C : jX g cc nL own D) (Rm : jRm g w0.2.1 w0.2.2 rm) (E : jEnd g (mPost D ad w0 post) 0 0 none) (hd : decode cc pc = .ok (.return_, 1)) (hp : post none A) : JM g D ad w0 A pc L [] := fun w hw hr => j_vret C Rm E hd ⟨none, A, rfl, hp, hw, hr⟩ (mhc hr).1 (mhc hr).2
theorem m_aret (C : jX g cc nL own D) (Rm : jRm g w0.2.1 w0.2.2 rm) {Cn : String} (E : jEnd g (mPost D ad w0 post) 0 0 (some (.object Cn))) {f k : Nat} (hd : decode cc pc = .ok (.areturn, 1)) (hp : post (some (vr f k)) A) : JM g D ad w0 A pc L [vr f k] := fun w hw hr => j_aret C Rm E (Or.inr ⟨_, rfl⟩) hd ⟨some (vr f k), A, rfl, hp, hw, hr⟩ (mhc hr).1 (mhc hr).2
-- Math
theorem m_mmax (C : jX g cc nL own D) (Rm : jRm g w0.2.1 w0.2.2 rm) {idx : Nat} {x y : Int} (hc : jcM own idx Lib.Math.max.name Lib.Math.max.code) (hd : decode cc pc = .ok (.invokestatic idx, 3)) (hf : 1 ≤ rm.frames) (hl : mcsum st + 13 ≤ rm.locals) (hx : -2147483648 ≤ x ∧ x ≤ 2147483647) (hy : -2147483648 ≤ y ∧ y ≤ 2147483647) (kk : ∀ z : Int, (x < y ∧ z = y ∨ ¬ x < y ∧ z = x) → JM g D ad w0 A (pc + 3) L (vi z :: st)) : JM g D ad w0 A pc L (vi y :: vi x :: st) := fun w hw hr => by
  refine j_mmax C Rm hc hd hf (by rw [mcsum_ok]; exact hl) (by have := (mhc hr).1; omega) (by have := (mhc hr).2; omega) ?_
  by_cases h : x < y
  · rw [if_pos ((iLt hx hy).mpr h)]
    exact kk y (Or.inl ⟨h, rfl⟩) w hw hr
  · rw [if_neg (fun q => h ((iLt hx hy).mp q))]
    exact kk x (Or.inr ⟨h, rfl⟩) w hw hr
-- System.arraycopy
def mcp (A : mA) (f k sp f' k' dp n : Nat) : mA := fun f2 k2 j => if f2 = f' ∧ k2 = k' ∧ dp ≤ j ∧ j < dp + n then A f k (sp + (j - dp)) else A f2 k2 j
theorem mcp_fk (A : mA) {f k sp f' k' dp n f2 k2 : Nat} (h : ¬ (f2 = f' ∧ k2 = k')) : mcp A f k sp f' k' dp n f2 k2 = A f2 k2 := funext fun j => by
  unfold mcp
  rw [if_neg (fun q => h ⟨q.1, q.2.1⟩)]
theorem mcp_I (A : mA) (f k sp f' k' dp n : Nat) : (fun q => Int32.ofInt (mcp A f k sp f' k' dp n f' k' q)) = va_cpy (fun q => Int32.ofInt (A f k q)) (fun q => Int32.ofInt (A f' k' q)) sp dp n := by
  funext q
  unfold mcp va_cpy
  by_cases h : dp ≤ q ∧ q < dp + n
  · rw [if_pos ⟨rfl, rfl, h⟩, if_pos h]
  · rw [if_neg (fun r => h r.2.2), if_neg h]
theorem mcp_J (A : mA) (f k sp f' k' dp n : Nat) : (fun q => Int64.ofInt (mcp A f k sp f' k' dp n f' k' q)) = va_cpy (fun q => Int64.ofInt (A f k q)) (fun q => Int64.ofInt (A f' k' q)) sp dp n := by
  funext q
  unfold mcp va_cpy
  by_cases h : dp ≤ q ∧ q < dp + n
  · rw [if_pos ⟨rfl, rfl, h⟩, if_pos h]
  · rw [if_neg (fun r => h r.2.2), if_neg h]
theorem iN0 {x : Int} {m : Nat} (h0 : 0 ≤ x) (h1 : x ≤ m) (hm : m ≤ 2147483647) : ¬ Int32.ofInt x < 0 ∧ (Int32.ofInt x).toNatClampNeg = x.toNat := by
  have e := iR (x := x) (by omega)
  refine ⟨fun q => ?_, ?_⟩
  · rw [jlt, e] at q
    have : (0 : Int32).toInt = 0 := by decide
    omega
  · show (Int32.ofInt x).toInt.toNat = _
    rw [e]
theorem m_copyi (C : jX g cc nL own D) (Rm : jRm g w0.2.1 w0.2.2 rm) {idx f k f' k' c n1 a b c' n2 a' b' : Nat} {sp dp n : Int} (hc : jcY own idx) (hd : decode cc pc = .ok (.invokestatic idx, 3)) (hs : mfam f = (c, 0, n1, a, b)) (hk : k < c) (hs' : mfam f' = (c', 0, n2, a', b')) (hk' : k' < c') (hm : n1 ≤ 10000 ∧ n2 ≤ 10000) (q1 : 0 ≤ sp) (q2 : 0 ≤ dp) (q3 : 0 ≤ n) (q4 : sp + n ≤ n1) (q5 : dp + n ≤ n2) (hf : 1 ≤ rm.frames) (hl : mcsum st + (nativeFrameWords "java/lang/System" "arraycopy" 5 + 11) ≤ rm.locals)
    (kk : JM g D ad w0 (mcp A f k sp.toNat f' k' dp.toNat n.toNat) (pc + 3) L st) : JM g D ad w0 A pc L (vi n :: vi dp :: vr f' k' :: vi sp :: vr f k :: st) := fun w hw hr => by
  have hk1 : k < mcnt f := by show k < (mfam f).1; rw [hs]; exact hk
  have hk2 : k' < mcnt f' := by show k' < (mfam f').1; rw [hs']; exact hk'
  have hc1 := (mcell_I hs).mp (hw.2 f k hk1)
  have hc2 := (mcell_I hs').mp (hw.2 f' k' hk2)
  obtain ⟨a1, a2⟩ := iN0 (m := n1) q1 (by omega) (by omega)
  obtain ⟨b1, b2⟩ := iN0 (m := n2) q2 (by omega) (by omega)
  obtain ⟨c1, c2⟩ := iN0 (m := n1) q3 (by omega) (by omega)
  refine j_copyi C Rm hc hd hc1 hc2 a1 b1 c1 (by rw [a2, c2]; omega) (by rw [b2, c2]; omega) hf (by rw [mcsum_ok]; exact hl) ?_
  rw [a2, b2, c2, ← mcp_I]
  exact kk _ (hw.set hk2 (fun f9 k9 q => mcp_fk A q) ((mcell_I hs').mpr rfl)) (hr.set (D := D) (A := A) hk2)
theorem m_copyl (C : jX g cc nL own D) (Rm : jRm g w0.2.1 w0.2.2 rm) {idx f k f' k' c n1 a b c' n2 a' b' : Nat} {sp dp n : Int} (hc : jcY own idx) (hd : decode cc pc = .ok (.invokestatic idx, 3)) (hs : mfam f = (c, 1, n1, a, b)) (hk : k < c) (hs' : mfam f' = (c', 1, n2, a', b')) (hk' : k' < c') (hm : n1 ≤ 10000 ∧ n2 ≤ 10000) (q1 : 0 ≤ sp) (q2 : 0 ≤ dp) (q3 : 0 ≤ n) (q4 : sp + n ≤ n1) (q5 : dp + n ≤ n2) (hf : 1 ≤ rm.frames) (hl : mcsum st + (nativeFrameWords "java/lang/System" "arraycopy" 5 + 11) ≤ rm.locals)
    (kk : JM g D ad w0 (mcp A f k sp.toNat f' k' dp.toNat n.toNat) (pc + 3) L st) : JM g D ad w0 A pc L (vi n :: vi dp :: vr f' k' :: vi sp :: vr f k :: st) := fun w hw hr => by
  have hk1 : k < mcnt f := by show k < (mfam f).1; rw [hs]; exact hk
  have hk2 : k' < mcnt f' := by show k' < (mfam f').1; rw [hs']; exact hk'
  have hc1 := (mcell_J hs).mp (hw.2 f k hk1)
  have hc2 := (mcell_J hs').mp (hw.2 f' k' hk2)
  obtain ⟨a1, a2⟩ := iN0 (m := n1) q1 (by omega) (by omega)
  obtain ⟨b1, b2⟩ := iN0 (m := n2) q2 (by omega) (by omega)
  obtain ⟨c1, c2⟩ := iN0 (m := n1) q3 (by omega) (by omega)
  refine j_copyl C Rm hc hd hc1 hc2 a1 b1 c1 (by rw [a2, c2]; omega) (by rw [b2, c2]; omega) hf (by rw [mcsum_ok]; exact hl) ?_
  rw [a2, b2, c2, ← mcp_J]
  exact kk _ (hw.set hk2 (fun f9 k9 q => mcp_fk A q) ((mcell_J hs').mpr rfl)) (hr.set (D := D) (A := A) hk2)
end M4
/-- every number of the memory within its type -/
def mTy (A : mA) : Prop := ∀ f k j, (mty f j).1 ≤ A f k j ∧ A f k j ≤ (mty f j).2
theorem mTy.mu {A : mA} (h : mTy A) {f k j : Nat} {z : Int} (h1 : (mty f j).1 ≤ z ∧ z ≤ (mty f j).2) : mTy (mu A f k j z) := fun f' k' j' => by
  by_cases q : f' = f ∧ k' = k ∧ j' = j
  · obtain ⟨rfl, rfl, rfl⟩ := q
    rw [mu_at]
    exact h1
  · rw [mu_ne A z q]
    exact h f' k' j'
theorem mrg {A : mA} (h : mTy A) {f k j : Nat} {x : Int} {q : Int × Int} (e : A f k j = x) (hq : mty f j = q) : q.1 ≤ x ∧ x ≤ q.2 := by
  have := h f k j
  rw [e, hq] at this
  exact this
/-- nothing changed but these -/
def mEq (S : Nat → Nat → Nat → Bool) (A A' : mA) : Prop := ∀ f k j, S f k j = false → A' f k j = A f k j
theorem mEq.rfl' {S : Nat → Nat → Nat → Bool} {A : mA} : mEq S A A := fun _ _ _ _ => rfl
theorem mEq.trans {S : Nat → Nat → Nat → Bool} {A A' A2 : mA} (h : mEq S A A') (k : mEq S A' A2) : mEq S A A2 := fun f k9 j hs => (k f k9 j hs).trans (h f k9 j hs)
theorem mEq.mu {S : Nat → Nat → Nat → Bool} {A A' : mA} (h : mEq S A A') {f k j : Nat} {z : Int} (hs : S f k j = true) : mEq S A (mu A' f k j z) := fun f' k' j' hs' => by
  rw [mu_ne A' z (fun q => by obtain ⟨rfl, rfl, rfl⟩ := q; rw [hs] at hs'; cases hs')]
  exact h f' k' j' hs'
theorem mEq.sub {S S' : Nat → Nat → Nat → Bool} {A A' : mA} (h : mEq S A A') (hs : ∀ f k j, S' f k j = false → S f k j = false) : mEq S' A A' := fun f k j q => h f k j (hs f k j q)
