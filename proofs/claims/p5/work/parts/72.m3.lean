/-! THE M LAYER: memory, worlds, the judgement (own work) -/
abbrev mA : Type := Nat → Nat → Nat → Int
def mu (A : mA) (f k j : Nat) (z : Int) : mA := fun f' k' j' => bif Nat.beq f' f && (Nat.beq j' j && Nat.beq k' k) then z else A f' k' j'
theorem mu_at (A : mA) (f k j : Nat) (z : Int) : mu A f k j z f k j = z := by
  unfold mu
  rw [Nat.beq_refl, Nat.beq_refl, Nat.beq_refl]
  rfl
theorem mu_ne (A : mA) {f k j f' k' j' : Nat} (z : Int) (h : ¬ (f' = f ∧ k' = k ∧ j' = j)) : mu A f k j z f' k' j' = A f' k' j' := by
  unfold mu
  by_cases h1 : f' = f
  · by_cases h2 : j' = j
    · by_cases h3 : k' = k
      · exact absurd ⟨h1, h3, h2⟩ h
      · rw [show Nat.beq k' k = false from by cases e : Nat.beq k' k with
          | true => exact absurd (Nat.eq_of_beq_eq_true e) h3
          | false => rfl, Bool.and_false, Bool.and_false]; rfl
    · rw [show Nat.beq j' j = false from by cases e : Nat.beq j' j with
        | true => exact absurd (Nat.eq_of_beq_eq_true e) h2
        | false => rfl, Bool.false_and, Bool.and_false]; rfl
  · rw [show Nat.beq f' f = false from by cases e : Nat.beq f' f with
      | true => exact absurd (Nat.eq_of_beq_eq_true e) h1
      | false => rfl, Bool.false_and]; rfl
theorem mu_fk (A : mA) {f k f' k' : Nat} (j : Nat) (z : Int) (h : ¬ (f' = f ∧ k' = k)) : mu A f k j z f' k' = A f' k' := funext fun j' => mu_ne A z (fun q => h ⟨q.1, q.2.1⟩)
def mfv (ad : mAd) (A : mA) (f k p q : Nat) : Value := match q with
  | 0 => .int (Int32.ofInt (A f k p))
  | f' + 1 => .ref (ad f' k)
def mcell (D : va_G) (ad : mAd) (A : mA) (f k : Nat) (c : Option jEl) : Prop := match mfam f with
  | (_, 0, n, _, _) => c = some (aI D n (fun j => Int32.ofInt (A f k j)))
  | (_, 1, n, _, _) => c = some (aJ D n (fun j => Int64.ofInt (A f k j)))
  | (_, 2, n, _, _) => c = some (aZ D n (fun j => Int32.ofInt (A f k j)))
  | (_, 3, n, t, f') => ∃ F : Nat → Option Nat, c = some (aR D t n F) ∧ ∀ j, j < n → F j = some (ad f' (k * n + j))
  | (_, _, ci, _, _) => ∃ V : Nat → Value, c = some (.inr (ci, V)) ∧ ∀ p q, mfld ci p = some q → V p = mfv ad A f k p q
abbrev mcnt (f : Nat) : Nat := (mfam f).1
def mInj (ad : mAd) : Prop := ∀ f k f' k', k < mcnt f → k' < mcnt f' → ad f k = ad f' k' → f = f' ∧ k = k'
def mIn (ad : mAd) (a : Nat) : Prop := ∃ f k, k < mcnt f ∧ a = ad f k
def mW (D : va_G) (ad : mAd) (A : mA) (w : jW) : Prop := mInj ad ∧ ∀ f k, k < mcnt f → mcell D ad A f k (w.1 (ad f k))
def mfr (ad : mAd) (w0 w : jW) : Prop := w.2 = w0.2 ∧ ∀ a, ¬ mIn ad a → w.1 a = w0.1 a
theorem mfr.rfl' {ad : mAd} {w : jW} : mfr ad w w := ⟨rfl, fun _ _ => rfl⟩
theorem mfr.trans {ad : mAd} {a b c : jW} (h : mfr ad a b) (k : mfr ad b c) : mfr ad a c := ⟨k.1.trans h.1, fun x hx => (k.2 x hx).trans (h.2 x hx)⟩
theorem mcell_I {D : va_G} {ad : mAd} {A : mA} {f k c n a b : Nat} {e : Option jEl} (hs : mfam f = (c, 0, n, a, b)) : mcell D ad A f k e ↔ e = some (aI D n (fun j => Int32.ofInt (A f k j))) := by unfold mcell; rw [hs]; exact Iff.rfl
theorem mcell_J {D : va_G} {ad : mAd} {A : mA} {f k c n a b : Nat} {e : Option jEl} (hs : mfam f = (c, 1, n, a, b)) : mcell D ad A f k e ↔ e = some (aJ D n (fun j => Int64.ofInt (A f k j))) := by unfold mcell; rw [hs]; exact Iff.rfl
theorem mcell_Z {D : va_G} {ad : mAd} {A : mA} {f k c n a b : Nat} {e : Option jEl} (hs : mfam f = (c, 2, n, a, b)) : mcell D ad A f k e ↔ e = some (aZ D n (fun j => Int32.ofInt (A f k j))) := by unfold mcell; rw [hs]; exact Iff.rfl
theorem mcell_R {D : va_G} {ad : mAd} {A : mA} {f k c n t f' : Nat} {e : Option jEl} (hs : mfam f = (c, 3, n, t, f')) : mcell D ad A f k e ↔ ∃ F : Nat → Option Nat, e = some (aR D t n F) ∧ ∀ j, j < n → F j = some (ad f' (k * n + j)) := by unfold mcell; rw [hs]; exact Iff.rfl
theorem mcell_O {D : va_G} {ad : mAd} {A : mA} {f k c ci a b : Nat} {e : Option jEl} (hs : mfam f = (c, 4, ci, a, b)) : mcell D ad A f k e ↔ ∃ V : Nat → Value, e = some (.inr (ci, V)) ∧ ∀ p q, mfld ci p = some q → V p = mfv ad A f k p q := by unfold mcell; rw [hs]; exact Iff.rfl
theorem mcell_congr {D : va_G} {ad : mAd} {A A' : mA} {f k : Nat} {e : Option jEl} (h : A' f k = A f k) (hc : mcell D ad A f k e) : mcell D ad A' f k e := by
  unfold mcell at hc ⊢
  unfold mfv at hc ⊢
  rw [h]
  exact hc
/-- a cell of the world is written -/
theorem mW.set {D : va_G} {ad : mAd} {A A' : mA} {w : jW} (h : mW D ad A w) {f k : Nat} {e : jEl} (hk : k < mcnt f) (ho : ∀ f' k', ¬ (f' = f ∧ k' = k) → A' f' k' = A f' k') (he : mcell D ad A' f k (some e)) : mW D ad A' (va_up w.1 (ad f k) (some e), w.2) := by
  refine ⟨h.1, fun f' k' hk' => ?_⟩
  by_cases q : f' = f ∧ k' = k
  · obtain ⟨rfl, rfl⟩ := q
    show mcell D ad A' f' k' (va_up w.1 (ad f' k') (some e) (ad f' k'))
    rw [va_up_self]
    exact he
  · have hne : ad f' k' ≠ ad f k := fun r => q (h.1 _ _ _ _ hk' hk r)
    show mcell D ad A' f' k' (va_up w.1 (ad f k) (some e) (ad f' k'))
    rw [va_up_ne _ _ hne]
    exact mcell_congr (ho f' k' q) (h.2 f' k' hk')
theorem mfr.set {D : va_G} {ad : mAd} {A : mA} {w0 w : jW} (h : mfr ad w0 w) {f k : Nat} {e : jEl} (hk : k < mcnt f) : mfr ad w0 (va_up w.1 (ad f k) (some e), w.2) := ⟨h.1, fun a ha => by
  have : a ≠ ad f k := fun q => ha ⟨f, k, hk, q⟩
  exact (va_up_ne _ _ this).trans (h.2 a ha)⟩
theorem iR {x : Int} (h : -2147483648 ≤ x ∧ x ≤ 2147483647) : (Int32.ofInt x).toInt = x := Int32.toInt_ofInt_of_le (by omega) (by omega)
theorem lR {x : Int} (h : -9223372036854775808 ≤ x ∧ x ≤ 9223372036854775807) : (Int64.ofInt x).toInt = x := Int64.toInt_ofInt_of_le (by omega) (by omega)
theorem iC {x : Int} {n : Nat} (h0 : 0 ≤ x) (h1 : x < n) (hn : n ≤ 2147483647) : (Int32.ofInt x).toNatClampNeg = x.toNat ∧ vp_in (Int32.ofInt x) n ∧ x.toNat < n := by
  have e := iR (x := x) (by omega)
  refine ⟨?_, jin (by omega) (by omega), by omega⟩
  show (Int32.ofInt x).toInt.toNat = _
  rw [e]
theorem iEq {x y : Int} (hx : -2147483648 ≤ x ∧ x ≤ 2147483647) (hy : -2147483648 ≤ y ∧ y ≤ 2147483647) : Int32.ofInt x = Int32.ofInt y ↔ x = y := by rw [jeq, iR hx, iR hy]
theorem iLt {x y : Int} (hx : -2147483648 ≤ x ∧ x ≤ 2147483647) (hy : -2147483648 ≤ y ∧ y ≤ 2147483647) : Int32.ofInt x < Int32.ofInt y ↔ x < y := by rw [jlt, iR hx, iR hy]
theorem iLe {x y : Int} (hx : -2147483648 ≤ x ∧ x ≤ 2147483647) (hy : -2147483648 ≤ y ∧ y ≤ 2147483647) : Int32.ofInt x ≤ Int32.ofInt y ↔ x ≤ y := by rw [jle, iR hx, iR hy]
theorem i0 : (0 : Int32) = Int32.ofInt 0 := by decide
/-- THE JUDGEMENT -/
def JM (g : jG) (D : va_G) (ad : mAd) (w0 : jW) (A : mA) (pc : Nat) (L : List (Nat × mV)) (st : List mV) : Prop := ∀ w, mW D ad A w → mfr ad w0 w → JJ g w pc (mL ad L) (mSt ad st)
section M3
variable {g : jG} {D : va_G} {ad : mAd} {w0 : jW} {A : mA} {cc : ByteArray} {nL pc : Nat} {own : String} {L : List (Nat × mV)} {st : List mV}
theorem m_blk {b : List mE} (pc' : Nat) (L' : List (Nat × mV)) (st' : List mV) (C : jX g cc nL own D) (hb : mblkB cc b = true) (h : mxs nL b pc L st = some (pc', L', st')) (kk : JM g D ad w0 A pc' L' st') : JM g D ad w0 A pc L st := fun w hw hf => mxs_ok C.1 C.2.2.1 b pc L st (by rw [C.2.1]; exact hb) h (kk w hw hf)
theorem m_ldc (C : jX g cc nL own D) {idx : Nat} {v : Int32} (z : Int) (hd : decode cc pc = .ok (.ldc idx, 2)) (hw : Cond.constant own idx v ∈ jwd) (hz : Int32.ofInt z = v) (kk : JM g D ad w0 A (pc + 2) L (vi z :: st)) : JM g D ad w0 A pc L st := fun w h1 h2 => j_ldc C hd hw (by rw [← hz]; exact kk w h1 h2)
theorem m_ldcw (C : jX g cc nL own D) {idx : Nat} {v : Int32} (z : Int) (hd : decode cc pc = .ok (.ldc_w idx, 3)) (hw : Cond.constant own idx v ∈ jwd) (hz : Int32.ofInt z = v) (kk : JM g D ad w0 A (pc + 3) L (vi z :: st)) : JM g D ad w0 A pc L st := fun w h1 h2 => j_ldcw C hd hw (by rw [← hz]; exact kk w h1 h2)
theorem m_ldc2 (C : jX g cc nL own D) {idx : Nat} {v : Int64} (z : Int) (hd : decode cc pc = .ok (.ldc2_w idx, 3)) (hw : Cond.constantLong own idx v ∈ jwd) (hz : Int64.ofInt z = v) (kk : JM g D ad w0 A (pc + 3) L (vl z :: st)) : JM g D ad w0 A pc L st := fun w h1 h2 => j_ldc2 C hd hw (by rw [← hz]; exact kk w h1 h2)
theorem m_i2l (C : jX g cc nL own D) {x : Int} (hd : decode cc pc = .ok (.i2l, 1)) (hx : -2147483648 ≤ x ∧ x ≤ 2147483647) (kk : JM g D ad w0 A (pc + 1) L (vl x :: st)) : JM g D ad w0 A pc L (vi x :: st) := fun w h1 h2 => by
  have e : (Int32.ofInt x).toInt64 = Int64.ofInt x := by
    have := Int64.ofInt_int32ToInt (Int32.ofInt x)
    rw [iR hx] at this
    exact this.symm
  have k := kk w h1 h2
  have e2 : mc ad (vl x) = .long (Int32.ofInt x).toInt64 := congrArg Value.long e.symm
  rw [mSt, List.map_cons, e2] at k
  exact j1_i2l C.1 (by rw [C.2.1]; exact hd) k
-- fields
theorem m_geti (C : jX g cc nL own D) {f k idx ci p c a b : Nat} (hd : decode cc pc = .ok (.getfield idx, 3)) (hf : jF own idx ci p) (hs : mfam f = (c, 4, ci, a, b)) (hk : k < c) (hp : mfld ci p = some 0) (z : Int) (hz : A f k p = z) (kk : JM g D ad w0 A (pc + 3) L (vi z :: st)) : JM g D ad w0 A pc L (vr f k :: st) := fun w hw hr => by
  obtain ⟨V, h1, h2⟩ := (mcell_O hs).mp (hw.2 f k (by show k < (mfam f).1; rw [hs]; exact hk))
  have h3 : V p = .int (Int32.ofInt z) := by rw [h2 p 0 hp, ← hz]; rfl
  exact j_get C hd hf h1 h3 (kk w hw hr)
theorem m_getiN (C : jX g cc nL own D) {f k idx ci p c a b : Nat} (hd : decode cc pc = .ok (.getfield idx, 3)) (hf : jFn own idx ci p) (hs : mfam f = (c, 4, ci, a, b)) (hk : k < c) (hp : mfld ci p = some 0) (z : Int) (hz : A f k p = z) (kk : JM g D ad w0 A (pc + 3) L (vi z :: st)) : JM g D ad w0 A pc L (vr f k :: st) := fun w hw hr => by
  obtain ⟨V, h1, h2⟩ := (mcell_O hs).mp (hw.2 f k (by show k < (mfam f).1; rw [hs]; exact hk))
  have h3 : V p = .int (Int32.ofInt z) := by rw [h2 p 0 hp, ← hz]; rfl
  exact j_getN C hd hf h1 h3 (kk w hw hr)
theorem m_getr (C : jX g cc nL own D) {f k idx ci p c a b f' : Nat} (hd : decode cc pc = .ok (.getfield idx, 3)) (hf : jF own idx ci p) (hs : mfam f = (c, 4, ci, a, b)) (hk : k < c) (hp : mfld ci p = some (f' + 1)) (kk : JM g D ad w0 A (pc + 3) L (vr f' k :: st)) : JM g D ad w0 A pc L (vr f k :: st) := fun w hw hr => by
  obtain ⟨V, h1, h2⟩ := (mcell_O hs).mp (hw.2 f k (by show k < (mfam f).1; rw [hs]; exact hk))
  have h3 : V p = .ref (ad f' k) := by rw [h2 p _ hp]; rfl
  exact j_get C hd hf h1 h3 (kk w hw hr)
theorem m_getrN (C : jX g cc nL own D) {f k idx ci p c a b f' : Nat} (hd : decode cc pc = .ok (.getfield idx, 3)) (hf : jFn own idx ci p) (hs : mfam f = (c, 4, ci, a, b)) (hk : k < c) (hp : mfld ci p = some (f' + 1)) (kk : JM g D ad w0 A (pc + 3) L (vr f' k :: st)) : JM g D ad w0 A pc L (vr f k :: st) := fun w hw hr => by
  obtain ⟨V, h1, h2⟩ := (mcell_O hs).mp (hw.2 f k (by show k < (mfam f).1; rw [hs]; exact hk))
  have h3 : V p = .ref (ad f' k) := by rw [h2 p _ hp]; rfl
  exact j_getN C hd hf h1 h3 (kk w hw hr)
theorem mW.fld {w : jW} (hw : mW D ad A w) {f k ci p c a b : Nat} {V : Nat → Value} {z : Int} (hs : mfam f = (c, 4, ci, a, b)) (hk : k < c) (hp : mfld ci p = some 0) (h2 : ∀ p q, mfld ci p = some q → V p = mfv ad A f k p q) : mW D ad (mu A f k p z) (va_up w.1 (ad f k) (some (.inr (ci, updV V p (.int (Int32.ofInt z))))), w.2) := by
  refine hw.set (by show k < (mfam f).1; rw [hs]; exact hk) (fun f' k' q => mu_fk A p z q) ((mcell_O hs).mpr ⟨_, rfl, fun p' q hq => ?_⟩)
  by_cases e : p' = p
  · subst e
    have : q = 0 := Option.some.inj (hq.symm.trans hp)
    subst this
    show updV V p' _ p' = .int (Int32.ofInt (mu A f k p' z f k p'))
    rw [mu_at]
    simp [updV]
  · have e1 : updV V p (.int (Int32.ofInt z)) p' = V p' := by simp [updV, e]
    rw [e1, h2 p' q hq]
    unfold mfv
    rw [mu_ne A z (fun r => e r.2.2)]
theorem m_puti (C : jX g cc nL own D) {f k idx ci p c a b : Nat} {z : Int} (hd : decode cc pc = .ok (.putfield idx, 3)) (hf : jFp own idx ci p .int) (hs : mfam f = (c, 4, ci, a, b)) (hk : k < c) (hp : mfld ci p = some 0) (kk : JM g D ad w0 (mu A f k p z) (pc + 3) L st) : JM g D ad w0 A pc L (vi z :: vr f k :: st) := fun w hw hr => by
  obtain ⟨V, h1, h2⟩ := (mcell_O hs).mp (hw.2 f k (by show k < (mfam f).1; rw [hs]; exact hk))
  exact j_put C hd hf h1 rfl rfl (kk _ (hw.fld hs hk hp h2) (hr.set (D := D) (A := A) (by show k < (mfam f).1; rw [hs]; exact hk)))
theorem m_putiN (C : jX g cc nL own D) {f k idx ci p c a b : Nat} {z : Int} (hd : decode cc pc = .ok (.putfield idx, 3)) (hf : jFpn own idx ci p .int) (hs : mfam f = (c, 4, ci, a, b)) (hk : k < c) (hp : mfld ci p = some 0) (kk : JM g D ad w0 (mu A f k p z) (pc + 3) L st) : JM g D ad w0 A pc L (vi z :: vr f k :: st) := fun w hw hr => by
  obtain ⟨V, h1, h2⟩ := (mcell_O hs).mp (hw.2 f k (by show k < (mfam f).1; rw [hs]; exact hk))
  exact j_putN C hd hf h1 rfl rfl (kk _ (hw.fld hs hk hp h2) (hr.set (D := D) (A := A) (by show k < (mfam f).1; rw [hs]; exact hk)))
theorem zN {z : Int} (h : z = 0 ∨ z = 1) : narrow .boolean (.int (Int32.ofInt z)) = .int (Int32.ofInt z) ∧ fits .boolean (.int (Int32.ofInt z)) = true ∧ vp_nar .boolean (Int32.ofInt z) = Int32.ofInt z := by
  rcases h with rfl | rfl
  · exact ⟨rfl, rfl, rfl⟩
  · exact ⟨rfl, rfl, rfl⟩
theorem m_putz (C : jX g cc nL own D) {f k idx ci p c a b : Nat} {z : Int} (hd : decode cc pc = .ok (.putfield idx, 3)) (hf : jFp own idx ci p .boolean) (hs : mfam f = (c, 4, ci, a, b)) (hk : k < c) (hp : mfld ci p = some 0) (hz : z = 0 ∨ z = 1) (kk : JM g D ad w0 (mu A f k p z) (pc + 3) L st) : JM g D ad w0 A pc L (vi z :: vr f k :: st) := fun w hw hr => by
  obtain ⟨V, h1, h2⟩ := (mcell_O hs).mp (hw.2 f k (by show k < (mfam f).1; rw [hs]; exact hk))
  exact j_put C hd hf h1 (zN hz).1 (zN hz).2.1 (kk _ (hw.fld hs hk hp h2) (hr.set (D := D) (A := A) (by show k < (mfam f).1; rw [hs]; exact hk)))
-- arrays
theorem m_iald (C : jX g cc nL own D) {f k c n a b : Nat} {i : Int} (hd : decode cc pc = .ok (.iaload, 1)) (hs : mfam f = (c, 0, n, a, b)) (hk : k < c) (hn : n ≤ 2147483647) (h0 : 0 ≤ i) (h1 : i < n) (z : Int) (hz : A f k i.toNat = z) (kk : JM g D ad w0 A (pc + 1) L (vi z :: st)) : JM g D ad w0 A pc L (vi i :: vr f k :: st) := fun w hw hr => by
  have hc := (mcell_I hs).mp (hw.2 f k (by show k < (mfam f).1; rw [hs]; exact hk))
  obtain ⟨e1, e2, e3⟩ := iC h0 h1 hn
  refine j_iald C hd hc e2 ?_
  rw [e1, hz]
  exact kk w hw hr
theorem m_lald (C : jX g cc nL own D) {f k c n a b : Nat} {i : Int} (hd : decode cc pc = .ok (.laload, 1)) (hs : mfam f = (c, 1, n, a, b)) (hk : k < c) (hn : n ≤ 2147483647) (h0 : 0 ≤ i) (h1 : i < n) (z : Int) (hz : A f k i.toNat = z) (kk : JM g D ad w0 A (pc + 1) L (vl z :: st)) : JM g D ad w0 A pc L (vi i :: vr f k :: st) := fun w hw hr => by
  have hc := (mcell_J hs).mp (hw.2 f k (by show k < (mfam f).1; rw [hs]; exact hk))
  obtain ⟨e1, e2, e3⟩ := iC h0 h1 hn
  refine j_lald C hd hc e2 ?_
  rw [e1, hz]
  exact kk w hw hr
theorem m_zald (C : jX g cc nL own D) {f k c n a b : Nat} {i : Int} (hd : decode cc pc = .ok (.baload, 1)) (hs : mfam f = (c, 2, n, a, b)) (hk : k < c) (hn : n ≤ 2147483647) (h0 : 0 ≤ i) (h1 : i < n) (z : Int) (hz : A f k i.toNat = z) (kk : JM g D ad w0 A (pc + 1) L (vi z :: st)) : JM g D ad w0 A pc L (vi i :: vr f k :: st) := fun w hw hr => by
  have hc := (mcell_Z hs).mp (hw.2 f k (by show k < (mfam f).1; rw [hs]; exact hk))
  obtain ⟨e1, e2, e3⟩ := iC h0 h1 hn
  refine j_zald C hd hc e2 ?_
  rw [e1, hz]
  exact kk w hw hr
theorem m_aald (C : jX g cc nL own D) {f k c n t f' : Nat} {i : Int} {ty : FieldType} (k' : Nat) (hd : decode cc pc = .ok (.aaload, 1)) (ht : jAT[t]? = some ty) (hr9 : ty.isReference = true) (hs : mfam f = (c, 3, n, t, f')) (hk : k < c) (hn : n ≤ 2147483647) (h0 : 0 ≤ i) (h1 : i < n) (hk' : k * n + i.toNat = k') (kk : JM g D ad w0 A (pc + 1) L (vr f' k' :: st)) : JM g D ad w0 A pc L (vi i :: vr f k :: st) := fun w hw hr => by
  obtain ⟨F, hc, hF⟩ := (mcell_R hs).mp (hw.2 f k (by show k < (mfam f).1; rw [hs]; exact hk))
  obtain ⟨e1, e2, e3⟩ := iC h0 h1 hn
  refine j_aald (v := .ref (ad f' k')) C hd ht hr9 hc e2 ?_ (kk w hw hr)
  rw [e1, hF _ e3, hk']
  rfl
theorem mW.arr {w : jW} (hw : mW D ad A w) {f k j : Nat} {z : Int} {e : jEl} (hk : k < mcnt f) (he : mcell D ad (mu A f k j z) f k (some e)) : mW D ad (mu A f k j z) (va_up w.1 (ad f k) (some e), w.2) := hw.set hk (fun f' k' q => mu_fk A j z q) he
theorem mu_upd (A : mA) (f k j : Nat) (z : Int) : (fun q => Int32.ofInt (mu A f k j z f k q)) = upd (fun q => Int32.ofInt (A f k q)) j (Int32.ofInt z) := by
  funext q
  by_cases h : q = j
  · subst h; simp [upd, mu_at]
  · simp [upd, h, mu_ne A z (fun r : f = f ∧ k = k ∧ q = j => h r.2.2)]
theorem mu_updL (A : mA) (f k j : Nat) (z : Int) : (fun q => Int64.ofInt (mu A f k j z f k q)) = vp_updL (fun q => Int64.ofInt (A f k q)) j (Int64.ofInt z) := by
  funext q
  by_cases h : q = j
  · subst h; simp [vp_updL, mu_at]
  · simp [vp_updL, h, mu_ne A z (fun r : f = f ∧ k = k ∧ q = j => h r.2.2)]
theorem m_iast (C : jX g cc nL own D) {f k c n a b : Nat} {i z : Int} (hd : decode cc pc = .ok (.iastore, 1)) (hs : mfam f = (c, 0, n, a, b)) (hk : k < c) (hn : n ≤ 2147483647) (h0 : 0 ≤ i) (h1 : i < n) (kk : JM g D ad w0 (mu A f k i.toNat z) (pc + 1) L st) : JM g D ad w0 A pc L (vi z :: vi i :: vr f k :: st) := fun w hw hr => by
  have hk9 : k < mcnt f := by show k < (mfam f).1; rw [hs]; exact hk
  have hc := (mcell_I hs).mp (hw.2 f k hk9)
  obtain ⟨e1, e2, e3⟩ := iC h0 h1 hn
  refine j_iast C hd hc e2 ?_
  rw [e1, ← mu_upd]
  exact kk _ (hw.arr hk9 ((mcell_I hs).mpr rfl)) (hr.set (D := D) (A := A) hk9)
theorem m_last (C : jX g cc nL own D) {f k c n a b : Nat} {i z : Int} (hd : decode cc pc = .ok (.lastore, 1)) (hs : mfam f = (c, 1, n, a, b)) (hk : k < c) (hn : n ≤ 2147483647) (h0 : 0 ≤ i) (h1 : i < n) (kk : JM g D ad w0 (mu A f k i.toNat z) (pc + 1) L st) : JM g D ad w0 A pc L (vl z :: vi i :: vr f k :: st) := fun w hw hr => by
  have hk9 : k < mcnt f := by show k < (mfam f).1; rw [hs]; exact hk
  have hc := (mcell_J hs).mp (hw.2 f k hk9)
  obtain ⟨e1, e2, e3⟩ := iC h0 h1 hn
  refine j_last C hd hc e2 ?_
  rw [e1, ← mu_updL]
  exact kk _ (hw.arr hk9 ((mcell_J hs).mpr rfl)) (hr.set (D := D) (A := A) hk9)
theorem m_zast (C : jX g cc nL own D) {f k c n a b : Nat} {i z : Int} (hd : decode cc pc = .ok (.bastore, 1)) (hs : mfam f = (c, 2, n, a, b)) (hk : k < c) (hn : n ≤ 2147483647) (h0 : 0 ≤ i) (h1 : i < n) (hz : z = 0 ∨ z = 1) (kk : JM g D ad w0 (mu A f k i.toNat z) (pc + 1) L st) : JM g D ad w0 A pc L (vi z :: vi i :: vr f k :: st) := fun w hw hr => by
  have hk9 : k < mcnt f := by show k < (mfam f).1; rw [hs]; exact hk
  have hc := (mcell_Z hs).mp (hw.2 f k hk9)
  obtain ⟨e1, e2, e3⟩ := iC h0 h1 hn
  refine j_zast C hd hc e2 ?_
  rw [e1, (zN hz).2.2, ← mu_upd]
  exact kk _ (hw.arr hk9 ((mcell_Z hs).mpr rfl)) (hr.set (D := D) (A := A) hk9)
-- branches
theorem m_icmp_eq (C : jX g cc nL own D) {x y : Int} {off : Int} {tgt : Nat} (hd : decode cc pc = .ok (.if_icmp .eq off, 3)) (ht : (pc : Int) + off = (tgt : Int)) (hx : -2147483648 ≤ x ∧ x ≤ 2147483647) (hy : -2147483648 ≤ y ∧ y ≤ 2147483647) (kt : x = y → JM g D ad w0 A tgt L st) (kf : ¬ x = y → JM g D ad w0 A (pc + 3) L st) : JM g D ad w0 A pc L (vi y :: vi x :: st) := fun w hw hr => j_icmp_eq C hd ht (fun h => kt ((iEq hx hy).mp h) w hw hr) (fun h => kf (fun q => h ((iEq hx hy).mpr q)) w hw hr)
theorem m_icmp_ne (C : jX g cc nL own D) {x y : Int} {off : Int} {tgt : Nat} (hd : decode cc pc = .ok (.if_icmp .ne off, 3)) (ht : (pc : Int) + off = (tgt : Int)) (hx : -2147483648 ≤ x ∧ x ≤ 2147483647) (hy : -2147483648 ≤ y ∧ y ≤ 2147483647) (kt : ¬ x = y → JM g D ad w0 A tgt L st) (kf : x = y → JM g D ad w0 A (pc + 3) L st) : JM g D ad w0 A pc L (vi y :: vi x :: st) := fun w hw hr => j_icmp_ne C hd ht (fun h => kt (fun q => h ((iEq hx hy).mpr q)) w hw hr) (fun h => kf ((iEq hx hy).mp h) w hw hr)
theorem m_icmp_lt (C : jX g cc nL own D) {x y : Int} {off : Int} {tgt : Nat} (hd : decode cc pc = .ok (.if_icmp .lt off, 3)) (ht : (pc : Int) + off = (tgt : Int)) (hx : -2147483648 ≤ x ∧ x ≤ 2147483647) (hy : -2147483648 ≤ y ∧ y ≤ 2147483647) (kt : x < y → JM g D ad w0 A tgt L st) (kf : ¬ x < y → JM g D ad w0 A (pc + 3) L st) : JM g D ad w0 A pc L (vi y :: vi x :: st) := fun w hw hr => j_icmp_lt C hd ht (fun h => kt ((iLt hx hy).mp h) w hw hr) (fun h => kf (fun q => h ((iLt hx hy).mpr q)) w hw hr)
theorem m_icmp_ge (C : jX g cc nL own D) {x y : Int} {off : Int} {tgt : Nat} (hd : decode cc pc = .ok (.if_icmp .ge off, 3)) (ht : (pc : Int) + off = (tgt : Int)) (hx : -2147483648 ≤ x ∧ x ≤ 2147483647) (hy : -2147483648 ≤ y ∧ y ≤ 2147483647) (kt : y ≤ x → JM g D ad w0 A tgt L st) (kf : ¬ y ≤ x → JM g D ad w0 A (pc + 3) L st) : JM g D ad w0 A pc L (vi y :: vi x :: st) := fun w hw hr => j_icmp_ge C hd ht (fun h => kt ((iLe hy hx).mp h) w hw hr) (fun h => kf (fun q => h ((iLe hy hx).mpr q)) w hw hr)
theorem m_icmp_gt (C : jX g cc nL own D) {x y : Int} {off : Int} {tgt : Nat} (hd : decode cc pc = .ok (.if_icmp .gt off, 3)) (ht : (pc : Int) + off = (tgt : Int)) (hx : -2147483648 ≤ x ∧ x ≤ 2147483647) (hy : -2147483648 ≤ y ∧ y ≤ 2147483647) (kt : y < x → JM g D ad w0 A tgt L st) (kf : ¬ y < x → JM g D ad w0 A (pc + 3) L st) : JM g D ad w0 A pc L (vi y :: vi x :: st) := fun w hw hr => j_icmp_gt C hd ht (fun h => kt ((iLt hy hx).mp h) w hw hr) (fun h => kf (fun q => h ((iLt hy hx).mpr q)) w hw hr)
theorem m_icmp_le (C : jX g cc nL own D) {x y : Int} {off : Int} {tgt : Nat} (hd : decode cc pc = .ok (.if_icmp .le off, 3)) (ht : (pc : Int) + off = (tgt : Int)) (hx : -2147483648 ≤ x ∧ x ≤ 2147483647) (hy : -2147483648 ≤ y ∧ y ≤ 2147483647) (kt : x ≤ y → JM g D ad w0 A tgt L st) (kf : ¬ x ≤ y → JM g D ad w0 A (pc + 3) L st) : JM g D ad w0 A pc L (vi y :: vi x :: st) := fun w hw hr => j_icmp_le C hd ht (fun h => kt ((iLe hx hy).mp h) w hw hr) (fun h => kf (fun q => h ((iLe hx hy).mpr q)) w hw hr)
theorem z0 : -2147483648 ≤ (0 : Int) ∧ (0 : Int) ≤ 2147483647 := by decide
theorem m_if_eq (C : jX g cc nL own D) {x : Int} {off : Int} {tgt : Nat} (hd : decode cc pc = .ok (.ifCond .eq off, 3)) (ht : (pc : Int) + off = (tgt : Int)) (hx : -2147483648 ≤ x ∧ x ≤ 2147483647) (kt : x = 0 → JM g D ad w0 A tgt L st) (kf : ¬ x = 0 → JM g D ad w0 A (pc + 3) L st) : JM g D ad w0 A pc L (vi x :: st) := fun w hw hr => j_if_eq C hd ht (fun h => kt ((iEq hx z0).mp h) w hw hr) (fun h => kf (fun q => h ((iEq hx z0).mpr q)) w hw hr)
theorem m_if_ne (C : jX g cc nL own D) {x : Int} {off : Int} {tgt : Nat} (hd : decode cc pc = .ok (.ifCond .ne off, 3)) (ht : (pc : Int) + off = (tgt : Int)) (hx : -2147483648 ≤ x ∧ x ≤ 2147483647) (kt : ¬ x = 0 → JM g D ad w0 A tgt L st) (kf : x = 0 → JM g D ad w0 A (pc + 3) L st) : JM g D ad w0 A pc L (vi x :: st) := fun w hw hr => j_if_ne C hd ht (fun h => kt (fun q => h ((iEq hx z0).mpr q)) w hw hr) (fun h => kf ((iEq hx z0).mp h) w hw hr)
theorem m_if_lt (C : jX g cc nL own D) {x : Int} {off : Int} {tgt : Nat} (hd : decode cc pc = .ok (.ifCond .lt off, 3)) (ht : (pc : Int) + off = (tgt : Int)) (hx : -2147483648 ≤ x ∧ x ≤ 2147483647) (kt : x < 0 → JM g D ad w0 A tgt L st) (kf : ¬ x < 0 → JM g D ad w0 A (pc + 3) L st) : JM g D ad w0 A pc L (vi x :: st) := fun w hw hr => j_if_lt C hd ht (fun h => kt ((iLt hx z0).mp h) w hw hr) (fun h => kf (fun q => h ((iLt hx z0).mpr q)) w hw hr)
theorem m_if_ge (C : jX g cc nL own D) {x : Int} {off : Int} {tgt : Nat} (hd : decode cc pc = .ok (.ifCond .ge off, 3)) (ht : (pc : Int) + off = (tgt : Int)) (hx : -2147483648 ≤ x ∧ x ≤ 2147483647) (kt : 0 ≤ x → JM g D ad w0 A tgt L st) (kf : ¬ 0 ≤ x → JM g D ad w0 A (pc + 3) L st) : JM g D ad w0 A pc L (vi x :: st) := fun w hw hr => j_if_ge C hd ht (fun h => kt ((iLe z0 hx).mp h) w hw hr) (fun h => kf (fun q => h ((iLe z0 hx).mpr q)) w hw hr)
theorem m_if_gt (C : jX g cc nL own D) {x : Int} {off : Int} {tgt : Nat} (hd : decode cc pc = .ok (.ifCond .gt off, 3)) (ht : (pc : Int) + off = (tgt : Int)) (hx : -2147483648 ≤ x ∧ x ≤ 2147483647) (kt : 0 < x → JM g D ad w0 A tgt L st) (kf : ¬ 0 < x → JM g D ad w0 A (pc + 3) L st) : JM g D ad w0 A pc L (vi x :: st) := fun w hw hr => j_if_gt C hd ht (fun h => kt ((iLt z0 hx).mp h) w hw hr) (fun h => kf (fun q => h ((iLt z0 hx).mpr q)) w hw hr)
theorem m_if_le (C : jX g cc nL own D) {x : Int} {off : Int} {tgt : Nat} (hd : decode cc pc = .ok (.ifCond .le off, 3)) (ht : (pc : Int) + off = (tgt : Int)) (hx : -2147483648 ≤ x ∧ x ≤ 2147483647) (kt : x ≤ 0 → JM g D ad w0 A tgt L st) (kf : ¬ x ≤ 0 → JM g D ad w0 A (pc + 3) L st) : JM g D ad w0 A pc L (vi x :: st) := fun w hw hr => j_if_le C hd ht (fun h => kt ((iLe hx z0).mp h) w hw hr) (fun h => kf (fun q => h ((iLe hx z0).mpr q)) w hw hr)
theorem m_tabIn (C : jX g cc nL own D) {dflt lo hi : Int} {offs : Array Int} {len : Nat} {x off : Int} {tgt : Nat} (hd : decode cc pc = .ok (.tableswitch dflt lo hi offs, len)) (hx : -2147483648 ≤ x ∧ x ≤ 2147483647) (q1 : ¬ x < lo) (q2 : ¬ hi < x) (ho : offs[(x - lo).toNat]? = some off) (ht : (pc : Int) + off = (tgt : Int)) (kk : JM g D ad w0 A tgt L st) : JM g D ad w0 A pc L (vi x :: st) := fun w hw hr => j_tabIn C hd (by rw [iR hx]; exact q1) (by rw [iR hx]; exact q2) (by rw [iR hx]; exact ho) ht (kk w hw hr)
theorem m_tabOut (C : jX g cc nL own D) {dflt lo hi : Int} {offs : Array Int} {len : Nat} {x : Int} {tgt : Nat} (hd : decode cc pc = .ok (.tableswitch dflt lo hi offs, len)) (hx : -2147483648 ≤ x ∧ x ≤ 2147483647) (q : x < lo ∨ hi < x) (ht : (pc : Int) + dflt = (tgt : Int)) (kk : JM g D ad w0 A tgt L st) : JM g D ad w0 A pc L (vi x :: st) := fun w hw hr => j_tabOut C hd (by rw [iR hx]; exact q) ht (kk w hw hr)
-- division
theorem m_idiv (C : jX g cc nL own D) {x y : Int} (hd : decode cc pc = .ok (.idiv, 1)) (hx : -2147483648 ≤ x ∧ x ≤ 2147483647) (hy : -2147483648 ≤ y ∧ y ≤ 2147483647) (h0 : y ≠ 0) (kk : JM g D ad w0 A (pc + 1) L (vi (x.tdiv y) :: st)) : JM g D ad w0 A pc L (vi y :: vi x :: st) := fun w hw hr => by
  have k := kk w hw hr
  have e : mc ad (vi (x.tdiv y)) = .int (Int32.ofInt x / Int32.ofInt y) := congrArg Value.int (Int32.ofInt_tdiv (by show -2147483648 ≤ x; omega) (by show x ≤ 2147483647; omega) (by show -2147483648 ≤ y; omega) (by show y ≤ 2147483647; omega))
  rw [mSt, List.map_cons, e] at k
  exact j_idiv C hd (fun q => h0 ((iEq hy z0).mp q)) k
theorem iRem {x y : Int} (hx : -2147483648 ≤ x ∧ x ≤ 2147483647) (hy : -2147483648 ≤ y ∧ y ≤ 2147483647) : Int32.ofInt (x.tmod y) = Int32.ofInt x - Int32.ofInt x / Int32.ofInt y * Int32.ofInt y := by
  rw [← Int32.ofInt_tdiv (by show -2147483648 ≤ x; omega) (by show x ≤ 2147483647; omega) (by show -2147483648 ≤ y; omega) (by show y ≤ 2147483647; omega), ← Int32.ofInt_mul, ← Int32.ofInt_sub, Int.tmod_def, Int.mul_comm]
theorem m_irem (C : jX g cc nL own D) {x y : Int} (hd : decode cc pc = .ok (.irem, 1)) (hx : -2147483648 ≤ x ∧ x ≤ 2147483647) (hy : -2147483648 ≤ y ∧ y ≤ 2147483647) (h0 : y ≠ 0) (kk : JM g D ad w0 A (pc + 1) L (vi (x.tmod y) :: st)) : JM g D ad w0 A pc L (vi y :: vi x :: st) := fun w hw hr => by
  have k := kk w hw hr
  have e : mc ad (vi (x.tmod y)) = .int (Int32.ofInt x - Int32.ofInt x / Int32.ofInt y * Int32.ofInt y) := congrArg Value.int (iRem hx hy)
  rw [mSt, List.map_cons, e] at k
  exact j_irem C hd (fun q => h0 ((iEq hy z0).mp q)) k
theorem lEq {x y : Int} (hx : -9223372036854775808 ≤ x ∧ x ≤ 9223372036854775807) (hy : -9223372036854775808 ≤ y ∧ y ≤ 9223372036854775807) : Int64.ofInt x = Int64.ofInt y ↔ x = y := by
  refine ⟨fun h => ?_, fun h => by rw [h]⟩
  have := congrArg Int64.toInt h
  rwa [lR hx, lR hy] at this
theorem lLt {x y : Int} (hx : -9223372036854775808 ≤ x ∧ x ≤ 9223372036854775807) (hy : -9223372036854775808 ≤ y ∧ y ≤ 9223372036854775807) : Int64.ofInt x < Int64.ofInt y ↔ x < y := by rw [Int64.lt_iff_toInt_lt, lR hx, lR hy]
theorem l0 : -9223372036854775808 ≤ (0 : Int) ∧ (0 : Int) ≤ 9223372036854775807 := by decide
theorem m_ldiv (C : jX g cc nL own D) {x y : Int} (hd : decode cc pc = .ok (.ldiv, 1)) (hx : -9223372036854775808 ≤ x ∧ x ≤ 9223372036854775807) (hy : -9223372036854775808 ≤ y ∧ y ≤ 9223372036854775807) (h0 : y ≠ 0) (kk : JM g D ad w0 A (pc + 1) L (vl (x.tdiv y) :: st)) : JM g D ad w0 A pc L (vl y :: vl x :: st) := fun w hw hr => by
  have k := kk w hw hr
  have e : mc ad (vl (x.tdiv y)) = .long (Int64.ofInt x / Int64.ofInt y) := congrArg Value.long (Int64.ofInt_tdiv (by show -9223372036854775808 ≤ x; omega) (by show x ≤ 9223372036854775807; omega) (by show -9223372036854775808 ≤ y; omega) (by show y ≤ 9223372036854775807; omega))
  rw [mSt, List.map_cons, e] at k
  exact j_ldiv C hd (fun q => h0 ((lEq hy l0).mp q)) k
theorem m_lrem (C : jX g cc nL own D) {x y : Int} (hd : decode cc pc = .ok (.lrem, 1)) (hx : -9223372036854775808 ≤ x ∧ x ≤ 9223372036854775807) (hy : -9223372036854775808 ≤ y ∧ y ≤ 9223372036854775807) (h0 : y ≠ 0) (kk : JM g D ad w0 A (pc + 1) L (vl (x.tmod y) :: st)) : JM g D ad w0 A pc L (vl y :: vl x :: st) := fun w hw hr => by
  have k := kk w hw hr
  have e : mc ad (vl (x.tmod y)) = .long (Int64.ofInt x - Int64.ofInt x / Int64.ofInt y * Int64.ofInt y) := by
    refine congrArg Value.long ?_
    show Int64.ofInt (x.tmod y) = _
    rw [← Int64.ofInt_tdiv (by show -9223372036854775808 ≤ x; omega) (by show x ≤ 9223372036854775807; omega) (by show -9223372036854775808 ≤ y; omega) (by show y ≤ 9223372036854775807; omega), ← Int64.ofInt_mul, ← Int64.ofInt_sub, Int.tmod_def, Int.mul_comm]
  rw [mSt, List.map_cons, e] at k
  exact j_lrem C hd (fun q => h0 ((lEq hy l0).mp q)) k
theorem lcmp_z {x y : Int} (hx : -9223372036854775808 ≤ x ∧ x ≤ 9223372036854775807) (hy : -9223372036854775808 ≤ y ∧ y ≤ 9223372036854775807) : ∃ z : Int, lg_cmp (Int64.ofInt x) (Int64.ofInt y) = Int32.ofInt z ∧ (x < y ∧ z = -1 ∨ x = y ∧ z = 0 ∨ y < x ∧ z = 1) := by
  unfold lg_cmp
  by_cases h1 : y < x
  · exact ⟨1, by rw [if_pos ((lLt hy hx).mpr h1)]; rfl, Or.inr (Or.inr ⟨h1, rfl⟩)⟩
  · rw [if_neg (fun q => h1 ((lLt hy hx).mp q))]
    by_cases h2 : x = y
    · exact ⟨0, by rw [if_pos ((lEq hx hy).mpr h2)]; rfl, Or.inr (Or.inl ⟨h2, rfl⟩)⟩
    · exact ⟨-1, by rw [if_neg (fun q => h2 ((lEq hx hy).mp q))]; rfl, Or.inl ⟨by omega, rfl⟩⟩
theorem m_lcmp (C : jX g cc nL own D) {x y : Int} (hd : decode cc pc = .ok (.lcmp, 1)) (hx : -9223372036854775808 ≤ x ∧ x ≤ 9223372036854775807) (hy : -9223372036854775808 ≤ y ∧ y ≤ 9223372036854775807) (kk : ∀ z : Int, (x < y ∧ z = -1 ∨ x = y ∧ z = 0 ∨ y < x ∧ z = 1) → JM g D ad w0 A (pc + 1) L (vi z :: st)) : JM g D ad w0 A pc L (vl y :: vl x :: st) := fun w hw hr => by
  obtain ⟨z, e, hz⟩ := lcmp_z hx hy
  refine j_lcmp C hd ?_
  rw [e]
  exact kk z hz w hw hr
end M3
