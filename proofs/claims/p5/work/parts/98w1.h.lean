/-! THE H LAYER (own work): the class's heap, typed, its content as integers by type, address, place -/
abbrev hid : mAd := fun _ k => k
/-- a value of a type, of this content -/
def hv (G : tG) (t : vT) (x : Int) (v : Value) : Prop := match t.1 with
  | 0 => v = .int (Int32.ofInt x)
  | 1 => v = .int (Int32.ofInt x)
  | 2 => v = .long (Int64.ofInt x)
  | 3 => v = .long (Int64.ofInt x)
  | 7 => v = .long (Int64.ofInt x)
  | 4 => v = .ref x.toNat ∧ G x.toNat = some t.2.1.toNat
  | 5 => x < 0 ∧ v = .null ∨ 0 ≤ x ∧ v = .ref x.toNat ∧ G x.toNat = some t.2.1.toNat
  | _ => True
def hcell (D : va_G) (G : tG) (A : mA) (τ a : Nat) (c : Option jEl) : Prop := match tyO τ with
  | some o => ∃ V, c = some (.inr (o.1, V)) ∧ ∀ k t, o.2[k]? = some t → hv G t (A τ a k) (V k)
  | none => match tyA τ with
    | some r => (match r.1 with
      | 0 => ∃ f, c = some (aI D r.2.1 f) ∧ ∀ j, j < r.2.1 → f j = Int32.ofInt (A τ a j)
      | 1 => ∃ f, c = some (aJ D r.2.1 f) ∧ ∀ j, j < r.2.1 → f j = Int64.ofInt (A τ a j)
      | 2 => ∃ f, c = some (aZ D r.2.1 f) ∧ ∀ j, j < r.2.1 → f j = Int32.ofInt (A τ a j)
      | t => ∃ f, c = some (aR D t r.2.1 f) ∧ ∀ j, j < r.2.1 → hv G r.2.2 (A τ a j) (va_rf (f j)))
    | none => False
def hW (D : va_G) (G : tG) (A : mA) (w : jW) : Prop := ∀ a τ, G a = some τ → hcell D G A τ a (w.1 a)
section HC
variable {D : va_G} {G : tG} {A : mA} {τ a n : Nat} {e : vT} {c : Option jEl}
theorem hcell_O {o : Nat × List vT} (ho : tyO τ = some o) : hcell D G A τ a c ↔ ∃ V, c = some (.inr (o.1, V)) ∧ ∀ k t, o.2[k]? = some t → hv G t (A τ a k) (V k) := by
  unfold hcell; rw [ho]
theorem hcell_I (ho : tyO τ = none) (ha : tyA τ = some (0, n, e)) : hcell D G A τ a c ↔ ∃ f, c = some (aI D n f) ∧ ∀ j, j < n → f j = Int32.ofInt (A τ a j) := by
  unfold hcell; rw [ho, ha]; exact Iff.rfl
theorem hcell_J (ho : tyO τ = none) (ha : tyA τ = some (1, n, e)) : hcell D G A τ a c ↔ ∃ f, c = some (aJ D n f) ∧ ∀ j, j < n → f j = Int64.ofInt (A τ a j) := by
  unfold hcell; rw [ho, ha]; exact Iff.rfl
theorem hcell_R {t : Nat} (ho : tyO τ = none) (ha : tyA τ = some (t + 3, n, e)) : hcell D G A τ a c ↔ ∃ f, c = some (aR D (t + 3) n f) ∧ ∀ j, j < n → hv G e (A τ a j) (va_rf (f j)) := by
  unfold hcell; rw [ho, ha]; exact Iff.rfl
theorem hcell_congr {A' : mA} (h : A' τ a = A τ a) (hc : hcell D G A τ a c) : hcell D G A' τ a c := by
  unfold hcell at hc ⊢
  rw [h]
  exact hc
end HC
/-- a cell is written -/
theorem hW.set {D : va_G} {G : tG} {A A' : mA} {w : jW} (h : hW D G A w) {a τ : Nat} {e : jEl} (hG : G a = some τ) (ho : ∀ τ' a', ¬ (τ' = τ ∧ a' = a) → A' τ' a' = A τ' a') (he : hcell D G A' τ a (some e)) : hW D G A' (va_up w.1 a (some e), w.2) := fun b τ' hb => by
  by_cases q : b = a
  · subst q
    rw [hG] at hb
    cases hb
    show hcell D G A' τ b (va_up w.1 b (some e) b)
    rw [va_up_self]
    exact he
  · show hcell D G A' τ' b (va_up w.1 a (some e) b)
    rw [va_up_ne _ _ q]
    exact hcell_congr (ho τ' b (fun r => q r.2)) (h b τ' hb)
/-- THE JUDGEMENT: with this content, these counts -/
def HM (g : jG) (D : va_G) (G : tG) (q : Nat × Nat) (A : mA) (pc : Nat) (L : List (Nat × mV)) (st : List mV) : Prop := ∀ w, hW D G A w → w.2 = q → JJ g w pc (mL hid L) (mSt hid st)
section H1
variable {g : jG} {D : va_G} {G : tG} {q : Nat × Nat} {A : mA} {cc : ByteArray} {nL pc : Nat} {own : String} {L : List (Nat × mV)} {st : List mV}
theorem h_blk {b : List mE} (pc' : Nat) (L' : List (Nat × mV)) (st' : List mV) (C : jX g cc nL own D) (hb : mblkB cc b = true) (h : mxs nL b pc L st = some (pc', L', st')) (kk : HM g D G q A pc' L' st') : HM g D G q A pc L st := fun w hw hf => mxs_ok C.1 C.2.2.1 b pc L st (by rw [C.2.1]; exact hb) h (kk w hw hf)
theorem h_nrm {z : Int} (kk : ∀ z' : Int, -2147483648 ≤ z' ∧ z' ≤ 2147483647 → HM g D G q A pc L (vi z' :: st)) : HM g D G q A pc L (vi z :: st) := fun w hw hf => by
  have k := kk (Int32.ofInt z).toInt ⟨jlo _, by have := jhi (Int32.ofInt z); omega⟩ w hw hf
  have e : mc hid (vi (Int32.ofInt z).toInt) = mc hid (vi z) := congrArg Value.int (Int32.ofInt_toInt _)
  rw [mSt, List.map_cons, e] at k
  exact k
theorem h_nrm2 {z : Int} (kk : ∀ z' : Int, -2147483648 ≤ z' ∧ z' ≤ 2147483647 → z' = (Int32.ofInt z).toInt → HM g D G q A pc L (vi z' :: st)) : HM g D G q A pc L (vi z :: st) := fun w hw hf => by
  have k := kk (Int32.ofInt z).toInt ⟨jlo _, by have := jhi (Int32.ofInt z); omega⟩ rfl w hw hf
  have e : mc hid (vi (Int32.ofInt z).toInt) = mc hid (vi z) := congrArg Value.int (Int32.ofInt_toInt _)
  rw [mSt, List.map_cons, e] at k
  exact k
theorem h_loc (L' : List (Nat × mV)) (h : mall L L') (kk : HM g D G q A pc L' st) : HM g D G q A pc L st := fun w hw hr => JJ.loc (mL hid L') (mall_ok hid L L' h) (kk w hw hr)
theorem h_i2l (C : jX g cc nL own D) {x : Int} (hd : decode cc pc = .ok (.i2l, 1)) (hx : -2147483648 ≤ x ∧ x ≤ 2147483647) (kk : HM g D G q A (pc + 1) L (vl x :: st)) : HM g D G q A pc L (vi x :: st) := fun w h1 h2 => by
  have e : (Int32.ofInt x).toInt64 = Int64.ofInt x := by
    have := Int64.ofInt_int32ToInt (Int32.ofInt x)
    rw [iR hx] at this
    exact this.symm
  have k := kk w h1 h2
  have e2 : mc hid (vl x) = .long (Int32.ofInt x).toInt64 := congrArg Value.long e.symm
  rw [mSt, List.map_cons, e2] at k
  exact j1_i2l C.1 (by rw [C.2.1]; exact hd) k
theorem h_ldc (C : jX g cc nL own D) {idx : Nat} {v : Int32} (z : Int) (hd : decode cc pc = .ok (.ldc idx, 2)) (hw : Cond.constant own idx v ∈ jwd) (hz : Int32.ofInt z = v) (kk : HM g D G q A (pc + 2) L (vi z :: st)) : HM g D G q A pc L st := fun w h1 h2 => j_ldc C hd hw (by rw [← hz]; exact kk w h1 h2)
theorem h_ldcw (C : jX g cc nL own D) {idx : Nat} {v : Int32} (z : Int) (hd : decode cc pc = .ok (.ldc_w idx, 3)) (hw : Cond.constant own idx v ∈ jwd) (hz : Int32.ofInt z = v) (kk : HM g D G q A (pc + 3) L (vi z :: st)) : HM g D G q A pc L st := fun w h1 h2 => j_ldcw C hd hw (by rw [← hz]; exact kk w h1 h2)
theorem h_ldc2 (C : jX g cc nL own D) {idx : Nat} {v : Int64} (z : Int) (hd : decode cc pc = .ok (.ldc2_w idx, 3)) (hw : Cond.constantLong own idx v ∈ jwd) (hz : Int64.ofInt z = v) (kk : HM g D G q A (pc + 3) L (vl z :: st)) : HM g D G q A pc L st := fun w h1 h2 => j_ldc2 C hd hw (by rw [← hz]; exact kk w h1 h2)
theorem hint1 {t : vT} (ht : Nat.ble t.1 1 = true) {x : Int} {v : Value} (h : hv G t x v) : v = .int (Int32.ofInt x) := by
  have h1 := Nat.le_of_ble_eq_true ht
  have h2 : t.1 = 0 ∨ t.1 = 1 := by omega
  unfold hv at h
  rcases h2 with e | e <;> (rw [e] at h; exact h)
theorem hint2 {t : vT} (ht : Nat.ble t.1 1 = true) {x : Int} : hv G t x (.int (Int32.ofInt x)) := by
  have h1 := Nat.le_of_ble_eq_true ht
  have h2 : t.1 = 0 ∨ t.1 = 1 := by omega
  unfold hv
  rcases h2 with e | e <;> (rw [e]; rfl)
-- fields
theorem h_geti (C : jX g cc nL own D) {τ a idx ci p : Nat} {fs : List vT} {t : vT} (hd : decode cc pc = .ok (.getfield idx, 3)) (hf : jF own idx ci p) (hg : G a = some τ) (ho : tyO τ = some (ci, fs)) (hp : fs[p]? = some t) (ht : Nat.ble t.1 1 = true) (z : Int) (hz : A τ a p = z) (kk : HM g D G q A (pc + 3) L (vi z :: st)) : HM g D G q A pc L (vr τ a :: st) := fun w hw hr => by
  obtain ⟨V, h1, h2⟩ := (hcell_O ho).mp (hw a τ hg)
  exact j_get C hd hf h1 (by rw [hint1 ht (h2 p t hp), hz]; rfl) (kk w hw hr)
theorem h_getiN (C : jX g cc nL own D) {τ a idx ci p : Nat} {fs : List vT} {t : vT} (hd : decode cc pc = .ok (.getfield idx, 3)) (hf : jFn own idx ci p) (hg : G a = some τ) (ho : tyO τ = some (ci, fs)) (hp : fs[p]? = some t) (ht : Nat.ble t.1 1 = true) (z : Int) (hz : A τ a p = z) (kk : HM g D G q A (pc + 3) L (vi z :: st)) : HM g D G q A pc L (vr τ a :: st) := fun w hw hr => by
  obtain ⟨V, h1, h2⟩ := (hcell_O ho).mp (hw a τ hg)
  exact j_getN C hd hf h1 (by rw [hint1 ht (h2 p t hp), hz]; rfl) (kk w hw hr)
theorem hrefv {t : vT} {τ' : Nat} (ht : t.1 = 4 ∨ t.1 = 5) (h2 : t.2.1.toNat = τ') {r : Nat} {v : Value} (h : hv G t r v) : v = .ref r ∧ G r = some τ' := by
  unfold hv at h
  rcases ht with e | e
  · rw [e] at h
    have h : v = .ref (r : Int).toNat ∧ G (r : Int).toNat = some t.2.1.toNat := h
    rw [h2] at h
    exact h
  · rw [e] at h
    have h : (r : Int) < 0 ∧ v = .null ∨ 0 ≤ (r : Int) ∧ v = .ref (r : Int).toNat ∧ G (r : Int).toNat = some t.2.1.toNat := h
    rw [h2] at h
    rcases h with h | h
    · omega
    · exact h.2
theorem hrefw {t : vT} {τ' r : Nat} (ht : t.1 = 4 ∨ t.1 = 5) (h2 : t.2.1.toNat = τ') (hr : G r = some τ') : hv G t r (.ref r) := by
  unfold hv
  rcases ht with e | e
  · rw [e]
    show Value.ref r = .ref (r : Int).toNat ∧ G (r : Int).toNat = some t.2.1.toNat
    rw [h2]
    exact ⟨rfl, hr⟩
  · rw [e]
    show (r : Int) < 0 ∧ Value.ref r = .null ∨ 0 ≤ (r : Int) ∧ Value.ref r = .ref (r : Int).toNat ∧ G (r : Int).toNat = some t.2.1.toNat
    rw [h2]
    exact Or.inr ⟨by omega, rfl, hr⟩
theorem h_getr (C : jX g cc nL own D) {τ a idx ci p τ' : Nat} {fs : List vT} {t : vT} (hd : decode cc pc = .ok (.getfield idx, 3)) (hf : jF own idx ci p) (hg : G a = some τ) (ho : tyO τ = some (ci, fs)) (hp : fs[p]? = some t) (ht : t.1 = 4 ∨ t.1 = 5) (h2 : t.2.1.toNat = τ') (r : Nat) (hr : A τ a p = r) (kk : G r = some τ' → HM g D G q A (pc + 3) L (vr τ' r :: st)) : HM g D G q A pc L (vr τ a :: st) := fun w hw hq => by
  obtain ⟨V, h1, h3⟩ := (hcell_O ho).mp (hw a τ hg)
  have h4 := h3 p t hp
  rw [hr] at h4
  obtain ⟨e1, e2⟩ := hrefv ht h2 h4
  exact j_get C hd hf h1 e1 (kk e2 w hw hq)
theorem h_getrN (C : jX g cc nL own D) {τ a idx ci p τ' : Nat} {fs : List vT} {t : vT} (hd : decode cc pc = .ok (.getfield idx, 3)) (hf : jFn own idx ci p) (hg : G a = some τ) (ho : tyO τ = some (ci, fs)) (hp : fs[p]? = some t) (ht : t.1 = 4 ∨ t.1 = 5) (h2 : t.2.1.toNat = τ') (r : Nat) (hr : A τ a p = r) (kk : G r = some τ' → HM g D G q A (pc + 3) L (vr τ' r :: st)) : HM g D G q A pc L (vr τ a :: st) := fun w hw hq => by
  obtain ⟨V, h1, h3⟩ := (hcell_O ho).mp (hw a τ hg)
  have h4 := h3 p t hp
  rw [hr] at h4
  obtain ⟨e1, e2⟩ := hrefv ht h2 h4
  exact j_getN C hd hf h1 e1 (kk e2 w hw hq)
theorem hW.fld {w : jW} (hw : hW D G A w) {τ a ci p : Nat} {fs : List vT} {V : Nat → Value} {z : Int} {v : Value} (hg : G a = some τ) (ho : tyO τ = some (ci, fs)) (h2 : ∀ k t, fs[k]? = some t → hv G t (A τ a k) (V k)) (hz : ∀ t, fs[p]? = some t → hv G t z v) : hW D G (mu A τ a p z) (va_up w.1 a (some (.inr (ci, updV V p v))), w.2) := by
  refine hw.set hg (fun f' k' e => mu_fk A p z e) ((hcell_O ho).mpr ⟨_, rfl, fun k t hk => ?_⟩)
  show hv G t (mu A τ a p z τ a k) (if k = p then v else V k)
  by_cases e : k = p
  · subst e
    rw [mu_at, if_pos rfl]
    exact hz t hk
  · rw [if_neg e, mu_ne A z (fun r => e r.2.2)]
    exact h2 k t hk
theorem h_puti (C : jX g cc nL own D) {τ a idx ci p : Nat} {fs : List vT} {t : vT} {z : Int} (hd : decode cc pc = .ok (.putfield idx, 3)) (hf : jFp own idx ci p .int) (hg : G a = some τ) (ho : tyO τ = some (ci, fs)) (hp : fs[p]? = some t) (ht : Nat.ble t.1 1 = true) (kk : HM g D G q (mu A τ a p z) (pc + 3) L st) : HM g D G q A pc L (vi z :: vr τ a :: st) := fun w hw hr => by
  obtain ⟨V, h1, h2⟩ := (hcell_O ho).mp (hw a τ hg)
  exact j_put C hd hf h1 rfl rfl (kk _ (hw.fld hg ho h2 (fun t' ht' => by rw [hp] at ht'; cases ht'; exact hint2 ht)) hr)
theorem h_putiN (C : jX g cc nL own D) {τ a idx ci p : Nat} {fs : List vT} {t : vT} {z : Int} (hd : decode cc pc = .ok (.putfield idx, 3)) (hf : jFpn own idx ci p .int) (hg : G a = some τ) (ho : tyO τ = some (ci, fs)) (hp : fs[p]? = some t) (ht : Nat.ble t.1 1 = true) (kk : HM g D G q (mu A τ a p z) (pc + 3) L st) : HM g D G q A pc L (vi z :: vr τ a :: st) := fun w hw hr => by
  obtain ⟨V, h1, h2⟩ := (hcell_O ho).mp (hw a τ hg)
  exact j_putN C hd hf h1 rfl rfl (kk _ (hw.fld hg ho h2 (fun t' ht' => by rw [hp] at ht'; cases ht'; exact hint2 ht)) hr)
theorem h_putz (C : jX g cc nL own D) {τ a idx ci p : Nat} {fs : List vT} {t : vT} {z : Int} (hd : decode cc pc = .ok (.putfield idx, 3)) (hf : jFp own idx ci p .boolean) (hg : G a = some τ) (ho : tyO τ = some (ci, fs)) (hp : fs[p]? = some t) (ht : Nat.ble t.1 1 = true) (hz : z = 0 ∨ z = 1) (kk : HM g D G q (mu A τ a p z) (pc + 3) L st) : HM g D G q A pc L (vi z :: vr τ a :: st) := fun w hw hr => by
  obtain ⟨V, h1, h2⟩ := (hcell_O ho).mp (hw a τ hg)
  exact j_put C hd hf h1 (zN hz).1 (zN hz).2.1 (kk _ (hw.fld hg ho h2 (fun t' ht' => by rw [hp] at ht'; cases ht'; exact hint2 ht)) hr)
theorem h_putzN (C : jX g cc nL own D) {τ a idx ci p : Nat} {fs : List vT} {t : vT} {z : Int} (hd : decode cc pc = .ok (.putfield idx, 3)) (hf : jFpn own idx ci p .boolean) (hg : G a = some τ) (ho : tyO τ = some (ci, fs)) (hp : fs[p]? = some t) (ht : Nat.ble t.1 1 = true) (hz : z = 0 ∨ z = 1) (kk : HM g D G q (mu A τ a p z) (pc + 3) L st) : HM g D G q A pc L (vi z :: vr τ a :: st) := fun w hw hr => by
  obtain ⟨V, h1, h2⟩ := (hcell_O ho).mp (hw a τ hg)
  exact j_putN C hd hf h1 (zN hz).1 (zN hz).2.1 (kk _ (hw.fld hg ho h2 (fun t' ht' => by rw [hp] at ht'; cases ht'; exact hint2 ht)) hr)
theorem h_putr (C : jX g cc nL own D) {τ a idx ci p τ' r : Nat} {fs : List vT} {t : vT} {ty : FieldType} (hd : decode cc pc = .ok (.putfield idx, 3)) (hf : jFp own idx ci p ty) (hfit : narrow ty (.ref r) = .ref r ∧ fits ty (.ref r) = true) (hg : G a = some τ) (ho : tyO τ = some (ci, fs)) (hp : fs[p]? = some t) (ht : t.1 = 4 ∨ t.1 = 5) (h2 : t.2.1.toNat = τ') (hr : G r = some τ') (kk : HM g D G q (mu A τ a p r) (pc + 3) L st) : HM g D G q A pc L (vr τ' r :: vr τ a :: st) := fun w hw hq => by
  obtain ⟨V, h1, h3⟩ := (hcell_O ho).mp (hw a τ hg)
  exact j_put C hd hf h1 hfit.1 hfit.2 (kk _ (hw.fld hg ho h3 (fun t' ht' => by rw [hp] at ht'; cases ht'; exact hrefw ht h2 hr)) hq)
theorem h_putrN (C : jX g cc nL own D) {τ a idx ci p τ' r : Nat} {fs : List vT} {t : vT} {ty : FieldType} (hd : decode cc pc = .ok (.putfield idx, 3)) (hf : jFpn own idx ci p ty) (hfit : narrow ty (.ref r) = .ref r ∧ fits ty (.ref r) = true) (hg : G a = some τ) (ho : tyO τ = some (ci, fs)) (hp : fs[p]? = some t) (ht : t.1 = 4 ∨ t.1 = 5) (h2 : t.2.1.toNat = τ') (hr : G r = some τ') (kk : HM g D G q (mu A τ a p r) (pc + 3) L st) : HM g D G q A pc L (vr τ' r :: vr τ a :: st) := fun w hw hq => by
  obtain ⟨V, h1, h3⟩ := (hcell_O ho).mp (hw a τ hg)
  exact j_putN C hd hf h1 hfit.1 hfit.2 (kk _ (hw.fld hg ho h3 (fun t' ht' => by rw [hp] at ht'; cases ht'; exact hrefw ht h2 hr)) hq)
-- arrays
theorem h_iald (C : jX g cc nL own D) {τ a n : Nat} {e : vT} {i : Int} (hd : decode cc pc = .ok (.iaload, 1)) (hg : G a = some τ) (ho : tyO τ = none) (ha : tyA τ = some (0, n, e)) (hn : n ≤ 2147483647) (h0 : 0 ≤ i) (h1 : i < n) (z : Int) (hz : A τ a i.toNat = z) (kk : HM g D G q A (pc + 1) L (vi z :: st)) : HM g D G q A pc L (vi i :: vr τ a :: st) := fun w hw hr => by
  obtain ⟨f, hc, hf⟩ := (hcell_I ho ha).mp (hw a τ hg)
  obtain ⟨e1, e2, e3⟩ := iC h0 h1 hn
  refine j_iald C hd hc e2 ?_
  rw [e1, hf _ e3, hz]
  exact kk w hw hr
theorem h_lald (C : jX g cc nL own D) {τ a n : Nat} {e : vT} {i : Int} (hd : decode cc pc = .ok (.laload, 1)) (hg : G a = some τ) (ho : tyO τ = none) (ha : tyA τ = some (1, n, e)) (hn : n ≤ 2147483647) (h0 : 0 ≤ i) (h1 : i < n) (z : Int) (hz : A τ a i.toNat = z) (kk : HM g D G q A (pc + 1) L (vl z :: st)) : HM g D G q A pc L (vi i :: vr τ a :: st) := fun w hw hr => by
  obtain ⟨f, hc, hf⟩ := (hcell_J ho ha).mp (hw a τ hg)
  obtain ⟨e1, e2, e3⟩ := iC h0 h1 hn
  refine j_lald C hd hc e2 ?_
  rw [e1, hf _ e3, hz]
  exact kk w hw hr
theorem h_aald (C : jX g cc nL own D) {τ a n t τ' : Nat} {e : vT} {i : Int} {ty : FieldType} (hd : decode cc pc = .ok (.aaload, 1)) (hty : jAT[t + 3]? = some ty) (hr9 : ty.isReference = true) (hg : G a = some τ) (ho : tyO τ = none) (ha : tyA τ = some (t + 3, n, e)) (ht : e.1 = 4 ∨ e.1 = 5) (h2 : e.2.1.toNat = τ') (hn : n ≤ 2147483647) (h0 : 0 ≤ i) (h1 : i < n) (r : Nat) (hr : A τ a i.toNat = r) (kk : G r = some τ' → HM g D G q A (pc + 1) L (vr τ' r :: st)) : HM g D G q A pc L (vi i :: vr τ a :: st) := fun w hw hq => by
  obtain ⟨f, hc, hf⟩ := (hcell_R ho ha).mp (hw a τ hg)
  obtain ⟨e1, e2, e3⟩ := iC h0 h1 hn
  have h4 := hf _ e3
  rw [hr] at h4
  obtain ⟨k1, k2⟩ := hrefv ht h2 h4
  exact j_aald (v := .ref r) C hd hty hr9 hc e2 (by rw [e1]; exact k1) (kk k2 w hw hq)
theorem h_iast (C : jX g cc nL own D) {τ a n : Nat} {e : vT} {i z : Int} (hd : decode cc pc = .ok (.iastore, 1)) (hg : G a = some τ) (ho : tyO τ = none) (ha : tyA τ = some (0, n, e)) (hn : n ≤ 2147483647) (h0 : 0 ≤ i) (h1 : i < n) (kk : HM g D G q (mu A τ a i.toNat z) (pc + 1) L st) : HM g D G q A pc L (vi z :: vi i :: vr τ a :: st) := fun w hw hr => by
  obtain ⟨f, hc, hf⟩ := (hcell_I ho ha).mp (hw a τ hg)
  obtain ⟨e1, e2, e3⟩ := iC h0 h1 hn
  refine j_iast C hd hc e2 ?_
  rw [e1]
  refine kk _ (hw.set hg (fun f' k' e => mu_fk A _ z e) ((hcell_I ho ha).mpr ⟨_, rfl, fun j hj => ?_⟩)) hr
  by_cases e : j = i.toNat
  · rw [e, mu_at]
    simp [upd]
  · rw [mu_ne A z (fun r => e r.2.2)]
    simp only [upd, if_neg e]
    exact hf j hj
theorem h_last (C : jX g cc nL own D) {τ a n : Nat} {e : vT} {i z : Int} (hd : decode cc pc = .ok (.lastore, 1)) (hg : G a = some τ) (ho : tyO τ = none) (ha : tyA τ = some (1, n, e)) (hn : n ≤ 2147483647) (h0 : 0 ≤ i) (h1 : i < n) (kk : HM g D G q (mu A τ a i.toNat z) (pc + 1) L st) : HM g D G q A pc L (vl z :: vi i :: vr τ a :: st) := fun w hw hr => by
  obtain ⟨f, hc, hf⟩ := (hcell_J ho ha).mp (hw a τ hg)
  obtain ⟨e1, e2, e3⟩ := iC h0 h1 hn
  refine j_last C hd hc e2 ?_
  rw [e1]
  refine kk _ (hw.set hg (fun f' k' e => mu_fk A _ z e) ((hcell_J ho ha).mpr ⟨_, rfl, fun j hj => ?_⟩)) hr
  by_cases e : j = i.toNat
  · rw [e, mu_at]
    simp [vp_updL]
  · rw [mu_ne A z (fun r => e r.2.2)]
    simp only [vp_updL, if_neg e]
    exact hf j hj
theorem h_alen (C : jX g cc nL own D) {τ a n : Nat} {e : vT} (hd : decode cc pc = .ok (.arraylength, 1)) (hg : G a = some τ) (ho : tyO τ = none) (ha : tyA τ = some (0, n, e)) (kk : HM g D G q A (pc + 1) L (vi n :: st)) : HM g D G q A pc L (vr τ a :: st) := fun w hw hr => by
  obtain ⟨f, hc, hf⟩ := (hcell_I ho ha).mp (hw a τ hg)
  exact j_alen (t := 0) C hd rfl hc rfl (by rw [← Int32.ofInt_eq_ofNat]; exact kk w hw hr)
theorem h_ifnonnull (C : jX g cc nL own D) {τ a : Nat} {off : Int} {tgt : Nat} (hd : decode cc pc = .ok (.ifnonnull off, 3)) (ht : (pc : Int) + off = (tgt : Int)) (kk : HM g D G q A tgt L st) : HM g D G q A pc L (vr τ a :: st) := fun w hw hr => j_ifnonnull C hd ht (kk w hw hr)
theorem h_ifnull (C : jX g cc nL own D) {τ a : Nat} {off : Int} (hd : decode cc pc = .ok (.ifnull off, 3)) (kk : HM g D G q A (pc + 3) L st) : HM g D G q A pc L (vr τ a :: st) := fun w hw hr => j_ifnull C hd (kk w hw hr)
-- branches
theorem h_tabIn (C : jX g cc nL own D) {dflt lo hi : Int} {offs : Array Int} {len : Nat} {x off : Int} {tgt : Nat} (hd : decode cc pc = .ok (.tableswitch dflt lo hi offs, len)) (hx : -2147483648 ≤ x ∧ x ≤ 2147483647) (q1 : ¬ x < lo) (q2 : ¬ hi < x) (ho : offs[(x - lo).toNat]? = some off) (ht : (pc : Int) + off = (tgt : Int)) (kk : HM g D G q A tgt L st) : HM g D G q A pc L (vi x :: st) := fun w hw hr => j_tabIn C hd (by rw [iR hx]; exact q1) (by rw [iR hx]; exact q2) (by rw [iR hx]; exact ho) ht (kk w hw hr)
theorem h_tabOut (C : jX g cc nL own D) {dflt lo hi : Int} {offs : Array Int} {len : Nat} {x : Int} {tgt : Nat} (hd : decode cc pc = .ok (.tableswitch dflt lo hi offs, len)) (hx : -2147483648 ≤ x ∧ x ≤ 2147483647) (q1 : x < lo ∨ hi < x) (ht : (pc : Int) + dflt = (tgt : Int)) (kk : HM g D G q A tgt L st) : HM g D G q A pc L (vi x :: st) := fun w hw hr => j_tabOut C hd (by rw [iR hx]; exact q1) ht (kk w hw hr)
theorem h_icmp_eq (C : jX g cc nL own D) {x y : Int} {off : Int} {tgt : Nat} (hd : decode cc pc = .ok (.if_icmp .eq off, 3)) (ht : (pc : Int) + off = (tgt : Int)) (hx : -2147483648 ≤ x ∧ x ≤ 2147483647) (hy : -2147483648 ≤ y ∧ y ≤ 2147483647) (kt : x = y → HM g D G q A tgt L st) (kf : ¬ x = y → HM g D G q A (pc + 3) L st) : HM g D G q A pc L (vi y :: vi x :: st) := fun w hw hr => j_icmp_eq C hd ht (fun h => kt ((iEq hx hy).mp h) w hw hr) (fun h => kf (fun q => h ((iEq hx hy).mpr q)) w hw hr)
theorem h_icmp_ne (C : jX g cc nL own D) {x y : Int} {off : Int} {tgt : Nat} (hd : decode cc pc = .ok (.if_icmp .ne off, 3)) (ht : (pc : Int) + off = (tgt : Int)) (hx : -2147483648 ≤ x ∧ x ≤ 2147483647) (hy : -2147483648 ≤ y ∧ y ≤ 2147483647) (kt : ¬ x = y → HM g D G q A tgt L st) (kf : x = y → HM g D G q A (pc + 3) L st) : HM g D G q A pc L (vi y :: vi x :: st) := fun w hw hr => j_icmp_ne C hd ht (fun h => kt (fun q => h ((iEq hx hy).mpr q)) w hw hr) (fun h => kf ((iEq hx hy).mp h) w hw hr)
theorem h_icmp_lt (C : jX g cc nL own D) {x y : Int} {off : Int} {tgt : Nat} (hd : decode cc pc = .ok (.if_icmp .lt off, 3)) (ht : (pc : Int) + off = (tgt : Int)) (hx : -2147483648 ≤ x ∧ x ≤ 2147483647) (hy : -2147483648 ≤ y ∧ y ≤ 2147483647) (kt : x < y → HM g D G q A tgt L st) (kf : ¬ x < y → HM g D G q A (pc + 3) L st) : HM g D G q A pc L (vi y :: vi x :: st) := fun w hw hr => j_icmp_lt C hd ht (fun h => kt ((iLt hx hy).mp h) w hw hr) (fun h => kf (fun q => h ((iLt hx hy).mpr q)) w hw hr)
theorem h_icmp_ge (C : jX g cc nL own D) {x y : Int} {off : Int} {tgt : Nat} (hd : decode cc pc = .ok (.if_icmp .ge off, 3)) (ht : (pc : Int) + off = (tgt : Int)) (hx : -2147483648 ≤ x ∧ x ≤ 2147483647) (hy : -2147483648 ≤ y ∧ y ≤ 2147483647) (kt : y ≤ x → HM g D G q A tgt L st) (kf : ¬ y ≤ x → HM g D G q A (pc + 3) L st) : HM g D G q A pc L (vi y :: vi x :: st) := fun w hw hr => j_icmp_ge C hd ht (fun h => kt ((iLe hy hx).mp h) w hw hr) (fun h => kf (fun q => h ((iLe hy hx).mpr q)) w hw hr)
theorem h_icmp_gt (C : jX g cc nL own D) {x y : Int} {off : Int} {tgt : Nat} (hd : decode cc pc = .ok (.if_icmp .gt off, 3)) (ht : (pc : Int) + off = (tgt : Int)) (hx : -2147483648 ≤ x ∧ x ≤ 2147483647) (hy : -2147483648 ≤ y ∧ y ≤ 2147483647) (kt : y < x → HM g D G q A tgt L st) (kf : ¬ y < x → HM g D G q A (pc + 3) L st) : HM g D G q A pc L (vi y :: vi x :: st) := fun w hw hr => j_icmp_gt C hd ht (fun h => kt ((iLt hy hx).mp h) w hw hr) (fun h => kf (fun q => h ((iLt hy hx).mpr q)) w hw hr)
theorem h_icmp_le (C : jX g cc nL own D) {x y : Int} {off : Int} {tgt : Nat} (hd : decode cc pc = .ok (.if_icmp .le off, 3)) (ht : (pc : Int) + off = (tgt : Int)) (hx : -2147483648 ≤ x ∧ x ≤ 2147483647) (hy : -2147483648 ≤ y ∧ y ≤ 2147483647) (kt : x ≤ y → HM g D G q A tgt L st) (kf : ¬ x ≤ y → HM g D G q A (pc + 3) L st) : HM g D G q A pc L (vi y :: vi x :: st) := fun w hw hr => j_icmp_le C hd ht (fun h => kt ((iLe hx hy).mp h) w hw hr) (fun h => kf (fun q => h ((iLe hx hy).mpr q)) w hw hr)
theorem h_if_eq (C : jX g cc nL own D) {x : Int} {off : Int} {tgt : Nat} (hd : decode cc pc = .ok (.ifCond .eq off, 3)) (ht : (pc : Int) + off = (tgt : Int)) (hx : -2147483648 ≤ x ∧ x ≤ 2147483647) (kt : x = 0 → HM g D G q A tgt L st) (kf : ¬ x = 0 → HM g D G q A (pc + 3) L st) : HM g D G q A pc L (vi x :: st) := fun w hw hr => j_if_eq C hd ht (fun h => kt ((iEq hx z0).mp h) w hw hr) (fun h => kf (fun q => h ((iEq hx z0).mpr q)) w hw hr)
theorem h_if_ne (C : jX g cc nL own D) {x : Int} {off : Int} {tgt : Nat} (hd : decode cc pc = .ok (.ifCond .ne off, 3)) (ht : (pc : Int) + off = (tgt : Int)) (hx : -2147483648 ≤ x ∧ x ≤ 2147483647) (kt : ¬ x = 0 → HM g D G q A tgt L st) (kf : x = 0 → HM g D G q A (pc + 3) L st) : HM g D G q A pc L (vi x :: st) := fun w hw hr => j_if_ne C hd ht (fun h => kt (fun q => h ((iEq hx z0).mpr q)) w hw hr) (fun h => kf ((iEq hx z0).mp h) w hw hr)
theorem h_if_lt (C : jX g cc nL own D) {x : Int} {off : Int} {tgt : Nat} (hd : decode cc pc = .ok (.ifCond .lt off, 3)) (ht : (pc : Int) + off = (tgt : Int)) (hx : -2147483648 ≤ x ∧ x ≤ 2147483647) (kt : x < 0 → HM g D G q A tgt L st) (kf : ¬ x < 0 → HM g D G q A (pc + 3) L st) : HM g D G q A pc L (vi x :: st) := fun w hw hr => j_if_lt C hd ht (fun h => kt ((iLt hx z0).mp h) w hw hr) (fun h => kf (fun q => h ((iLt hx z0).mpr q)) w hw hr)
theorem h_if_ge (C : jX g cc nL own D) {x : Int} {off : Int} {tgt : Nat} (hd : decode cc pc = .ok (.ifCond .ge off, 3)) (ht : (pc : Int) + off = (tgt : Int)) (hx : -2147483648 ≤ x ∧ x ≤ 2147483647) (kt : 0 ≤ x → HM g D G q A tgt L st) (kf : ¬ 0 ≤ x → HM g D G q A (pc + 3) L st) : HM g D G q A pc L (vi x :: st) := fun w hw hr => j_if_ge C hd ht (fun h => kt ((iLe z0 hx).mp h) w hw hr) (fun h => kf (fun q => h ((iLe z0 hx).mpr q)) w hw hr)
theorem h_if_gt (C : jX g cc nL own D) {x : Int} {off : Int} {tgt : Nat} (hd : decode cc pc = .ok (.ifCond .gt off, 3)) (ht : (pc : Int) + off = (tgt : Int)) (hx : -2147483648 ≤ x ∧ x ≤ 2147483647) (kt : 0 < x → HM g D G q A tgt L st) (kf : ¬ 0 < x → HM g D G q A (pc + 3) L st) : HM g D G q A pc L (vi x :: st) := fun w hw hr => j_if_gt C hd ht (fun h => kt ((iLt z0 hx).mp h) w hw hr) (fun h => kf (fun q => h ((iLt z0 hx).mpr q)) w hw hr)
theorem h_if_le (C : jX g cc nL own D) {x : Int} {off : Int} {tgt : Nat} (hd : decode cc pc = .ok (.ifCond .le off, 3)) (ht : (pc : Int) + off = (tgt : Int)) (hx : -2147483648 ≤ x ∧ x ≤ 2147483647) (kt : x ≤ 0 → HM g D G q A tgt L st) (kf : ¬ x ≤ 0 → HM g D G q A (pc + 3) L st) : HM g D G q A pc L (vi x :: st) := fun w hw hr => j_if_le C hd ht (fun h => kt ((iLe hx z0).mp h) w hw hr) (fun h => kf (fun q => h ((iLe hx z0).mpr q)) w hw hr)
theorem h_idiv (C : jX g cc nL own D) {x y : Int} (hd : decode cc pc = .ok (.idiv, 1)) (hx : -2147483648 ≤ x ∧ x ≤ 2147483647) (hy : -2147483648 ≤ y ∧ y ≤ 2147483647) (h0 : y ≠ 0) (kk : HM g D G q A (pc + 1) L (vi (x.tdiv y) :: st)) : HM g D G q A pc L (vi y :: vi x :: st) := fun w hw hr => by
  have k := kk w hw hr
  have e : mc hid (vi (x.tdiv y)) = .int (Int32.ofInt x / Int32.ofInt y) := congrArg Value.int (Int32.ofInt_tdiv (by show -2147483648 ≤ x; omega) (by show x ≤ 2147483647; omega) (by show -2147483648 ≤ y; omega) (by show y ≤ 2147483647; omega))
  rw [mSt, List.map_cons, e] at k
  exact j_idiv C hd (fun q => h0 ((iEq hy z0).mp q)) k
theorem h_irem (C : jX g cc nL own D) {x y : Int} (hd : decode cc pc = .ok (.irem, 1)) (hx : -2147483648 ≤ x ∧ x ≤ 2147483647) (hy : -2147483648 ≤ y ∧ y ≤ 2147483647) (h0 : y ≠ 0) (kk : HM g D G q A (pc + 1) L (vi (x.tmod y) :: st)) : HM g D G q A pc L (vi y :: vi x :: st) := fun w hw hr => by
  have k := kk w hw hr
  have e : mc hid (vi (x.tmod y)) = .int (Int32.ofInt x - Int32.ofInt x / Int32.ofInt y * Int32.ofInt y) := congrArg Value.int (iRem hx hy)
  rw [mSt, List.map_cons, e] at k
  exact j_irem C hd (fun q => h0 ((iEq hy z0).mp q)) k
theorem h_ldiv (C : jX g cc nL own D) {x y : Int} (hd : decode cc pc = .ok (.ldiv, 1)) (hx : -9223372036854775808 ≤ x ∧ x ≤ 9223372036854775807) (hy : -9223372036854775808 ≤ y ∧ y ≤ 9223372036854775807) (h0 : y ≠ 0) (kk : HM g D G q A (pc + 1) L (vl (x.tdiv y) :: st)) : HM g D G q A pc L (vl y :: vl x :: st) := fun w hw hr => by
  have k := kk w hw hr
  have e : mc hid (vl (x.tdiv y)) = .long (Int64.ofInt x / Int64.ofInt y) := congrArg Value.long (Int64.ofInt_tdiv (by show -9223372036854775808 ≤ x; omega) (by show x ≤ 9223372036854775807; omega) (by show -9223372036854775808 ≤ y; omega) (by show y ≤ 9223372036854775807; omega))
  rw [mSt, List.map_cons, e] at k
  exact j_ldiv C hd (fun q => h0 ((lEq hy l0).mp q)) k
theorem h_lrem (C : jX g cc nL own D) {x y : Int} (hd : decode cc pc = .ok (.lrem, 1)) (hx : -9223372036854775808 ≤ x ∧ x ≤ 9223372036854775807) (hy : -9223372036854775808 ≤ y ∧ y ≤ 9223372036854775807) (h0 : y ≠ 0) (kk : HM g D G q A (pc + 1) L (vl (x.tmod y) :: st)) : HM g D G q A pc L (vl y :: vl x :: st) := fun w hw hr => by
  have k := kk w hw hr
  have e : mc hid (vl (x.tmod y)) = .long (Int64.ofInt x - Int64.ofInt x / Int64.ofInt y * Int64.ofInt y) := by
    refine congrArg Value.long ?_
    show Int64.ofInt (x.tmod y) = _
    rw [← Int64.ofInt_tdiv (by show -9223372036854775808 ≤ x; omega) (by show x ≤ 9223372036854775807; omega) (by show -9223372036854775808 ≤ y; omega) (by show y ≤ 9223372036854775807; omega), ← Int64.ofInt_mul, ← Int64.ofInt_sub, Int.tmod_def, Int.mul_comm]
  rw [mSt, List.map_cons, e] at k
  exact j_lrem C hd (fun q => h0 ((lEq hy l0).mp q)) k
theorem h_lcmp (C : jX g cc nL own D) {x y : Int} (hd : decode cc pc = .ok (.lcmp, 1)) (hx : -9223372036854775808 ≤ x ∧ x ≤ 9223372036854775807) (hy : -9223372036854775808 ≤ y ∧ y ≤ 9223372036854775807) (kk : ∀ z : Int, (x < y ∧ z = -1 ∨ x = y ∧ z = 0 ∨ y < x ∧ z = 1) → HM g D G q A (pc + 1) L (vi z :: st)) : HM g D G q A pc L (vl y :: vl x :: st) := fun w hw hr => by
  obtain ⟨z, e, hz⟩ := lcmp_z hx hy
  refine j_lcmp C hd ?_
  rw [e]
  exact kk z hz w hw hr
end H1
