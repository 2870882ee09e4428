/-! THE W LAYER: methods that make crowds, by what must hold behind them (own work) -/
def wb (q0 : Nat × Nat) (k0 : Nat) (q : Nat × Nat) (k : Nat) : Prop := q.1 + 3 * k ≤ q0.1 + 3 * k0 ∧ q.2 + 604 * k ≤ q0.2 + 604 * k0
/-- what a method answers: 0 nothing, 1 an int, 2 a long, t + 3 a reference of type t, or null -/
def wvl (t : Nat) (G : tG) (r : Int) (v : Option Value) : Prop := match t with
  | 0 => v = none
  | 1 => v = some (.int (Int32.ofInt r))
  | 2 => v = some (.long (Int64.ofInt r))
  | t + 3 => (r < 0 ∧ v = some .null) ∨ (0 ≤ r ∧ v = some (.ref r.toNat) ∧ G r.toNat = some t)
abbrev wQ : Type := Int → mA → tG → Nat → Prop
def wPost (D : va_G) (G : tG) (k : Nat) (q : Nat × Nat) (t : Nat) (Q : wQ) : Option Value → jW → Prop := fun v w' => ∃ r A' G' k', wvl t G' r v ∧ Q r A' G' k' ∧ (∀ a τ, G a = some τ → G' a = some τ) ∧ hW D G' A' w' ∧ wb q k w'.2 k'
def wMet (l : Launch) (D : va_G) (B : Nat) (H0 : Heap) (G : tG) (k : Nat) (y : MethodName) (cc : ByteArray) (maxL : Nat) (ret : Option FieldType) (fr lo t : Nat) (args : List mV) (A : mA) (Q : wQ) : Prop :=
  ∀ w, hW D G A w → jMet l D B H0 y cc maxL ret fr lo (3 * k) (604 * k) (mSt hid args) w (wPost D G k w.2 t Q)
theorem wb.rfl' {q : Nat × Nat} {k : Nat} : wb q k q k := ⟨Nat.le_refl _, Nat.le_refl _⟩
theorem wb.trans {q q1 q2 : Nat × Nat} {k k1 k2 : Nat} (h : wb q k q1 k1) (h' : wb q1 k1 q2 k2) : wb q k q2 k2 := ⟨Nat.le_trans h'.1 h.1, Nat.le_trans h'.2 h.2⟩
theorem wbE {q0 q : Nat × Nat} {k0 k k' : Nat} (e : k = k') (h : wb q0 k0 q k) : wb q0 k0 q k' := by
  subst e
  exact h
theorem wgd {c t : Prop} [Decidable c] (h : if c then t else False) : c ∧ t := by
  by_cases k : c
  · rw [if_pos k] at h; exact ⟨k, h⟩
  · rw [if_neg k] at h; exact h.elim
theorem wfp {c a b : Prop} [Decidable c] (k : c) (h : if c then a else b) : a := by rw [if_pos k] at h; exact h
theorem wfn {c a b : Prop} [Decidable c] (k : ¬ c) (h : if c then a else b) : b := by rw [if_neg k] at h; exact h
section W1
variable {g : jG} {D : va_G} {G G0 : tG} {q q0 : Nat × Nat} {k k0 : Nat} {A : mA} {cc : ByteArray} {nL pc : Nat} {own : String} {L : List (Nat × mV)} {st : List mV} {l : Launch} {B : Nat} {H0 : Heap} {y0 : MethodName} {fr0 lo0 : Nat} {post : Option mV → mA → Prop} {Q Q' : wQ}
theorem w_met {y : MethodName} {maxL : Nat} {ret : Option FieldType} {av : List mV} {fr lo t : Nat} (hy : plainName y.cls = true) (hav : Nat.ble (mcsum av) maxL = true)
    (body : ∀ (g : jG) (q : Nat × Nat), jX g cc maxL y.cls D → jRm g q.1 q.2 { frames := fr, cells := 3 * k, slots := 604 * k, locals := lo } → jY g l B H0 y → jEnd g (wPost D G k q t Q) (3 * k) (604 * k) ret → HM g D G q A 0 (margs 0 av) []) : wMet l D B H0 G k y cc maxL ret fr lo t av A Q := fun w hw => by
  refine j_met hy (by rw [mlg]; exact Nat.le_of_ble_eq_true hav) (fun g C Rm Y E => ?_)
  rw [margs_ok]
  exact body g w.2 C Rm Y E w hw rfl
theorem wroom {w : jW} {c s : Nat} (hb : wb q0 k0 q k) (hr : w.2 = q) (h1 : c ≤ 3 * k) (h2 : s ≤ 604 * k) : w.2.1 + c ≤ q0.1 + 3 * k0 ∧ w.2.2 + s ≤ q0.2 + 604 * k0 := by
  obtain ⟨b1, b2⟩ := hb
  rw [hr]
  omega
-- calls of methods that make nothing
theorem w_callS (C : jX g cc nL own D) (Rm : jRm g q0.1 q0.2 { frames := fr0, cells := 3 * k0, slots := 604 * k0, locals := lo0 }) (Y : jY g l B H0 y0) (hb : wb q0 k0 q k) {idx n maxL fr lo : Nat} {y : MethodName} {bytes : ByteArray} {ret : Option FieldType} (As rest : List mV) (hM : hMet l D B H0 G y bytes maxL ret fr lo As A post) (hc : jcS own idx y bytes maxL ret n) (hd : decode cc pc = .ok (.invokestatic idx, 3)) (hn : As.length = n) (hst : st = As.reverse ++ rest) (h8 : Nat.ble (mcsum rest) 8 = true) (hR : fr + 1 ≤ fr0 ∧ 8 + (maxL + 11) + lo ≤ lo0)
    (kk : ∀ v9 A', post v9 A' → HM g D G q A' (pc + 3) L (v9.toList ++ rest)) : HM g D G q A pc L st := fun w hw hr => by
  subst hst
  have e : mSt hid (As.reverse ++ rest) = (mSt hid As).reverse ++ mSt hid rest := by simp [mSt]
  rw [e]
  exact j_callS C Rm Y (mSt hid rest) (hM w hw) hc hd (by simp [mSt, hn]) rfl (by rw [mcsum_ok]; exact Nat.le_of_ble_eq_true h8) hR (wroom hb hr (Nat.zero_le _) (Nat.zero_le _)) (hkk hr kk)
theorem w_callSn (C : jX g cc nL own D) (Rm : jRm g q0.1 q0.2 { frames := fr0, cells := 3 * k0, slots := 604 * k0, locals := lo0 }) (Y : jY g l B H0 y0) (hb : wb q0 k0 q k) {idx n maxL fr lo : Nat} {y : MethodName} {bytes : ByteArray} {ret : Option FieldType} (As rest : List mV) (hM : hMet l D B H0 G y bytes maxL ret fr lo As A post) (hc : jcSn own idx y bytes maxL ret n) (hd : decode cc pc = .ok (.invokestatic idx, 3)) (hn : As.length = n) (hst : st = As.reverse ++ rest) (h8 : Nat.ble (mcsum rest) 8 = true) (hR : fr + 1 ≤ fr0 ∧ 8 + (maxL + 11) + lo ≤ lo0)
    (kk : ∀ v9 A', post v9 A' → HM g D G q A' (pc + 3) L (v9.toList ++ rest)) : HM g D G q A pc L st := fun w hw hr => by
  subst hst
  have e : mSt hid (As.reverse ++ rest) = (mSt hid As).reverse ++ mSt hid rest := by simp [mSt]
  rw [e]
  exact j_callSn C Rm Y (mSt hid rest) (hM w hw) hc hd (by simp [mSt, hn]) rfl (by rw [mcsum_ok]; exact Nat.le_of_ble_eq_true h8) hR (wroom hb hr (Nat.zero_le _) (Nat.zero_le _)) (hkk hr kk)
theorem w_callV (C : jX g cc nL own D) (Rm : jRm g q0.1 q0.2 { frames := fr0, cells := 3 * k0, slots := 604 * k0, locals := lo0 }) (Y : jY g l B H0 y0) (hb : wb q0 k0 q k) {idx n maxL fr lo τ a ci : Nat} {fs : List vT} {r : vw_C} {y : MethodName} {bytes : ByteArray} {ret : Option FieldType} (As rest : List mV) (hM : hMet l D B H0 G y bytes maxL ret fr lo (vr τ a :: As) A post) (hc : jcV own idx y bytes maxL ret n) (hg : G a = some τ) (ho : tyO τ = some (ci, fs)) (hci : vwCl[ci]? = some r) (hrc : r.1 = y.cls) (hd : decode cc pc = .ok (.invokevirtual idx, 3)) (hn : As.length = n) (hst : st = As.reverse ++ vr τ a :: rest) (h8 : Nat.ble (mcsum rest) 8 = true) (hR : fr + 1 ≤ fr0 ∧ 8 + (maxL + 11) + lo ≤ lo0)
    (kk : ∀ v9 A', post v9 A' → HM g D G q A' (pc + 3) L (v9.toList ++ rest)) : HM g D G q A pc L st := fun w hw hr => by
  subst hst
  obtain ⟨V, h1, h2⟩ := (hcell_O ho).mp (hw a τ hg)
  have e : mSt hid (As.reverse ++ vr τ a :: rest) = (mSt hid As).reverse ++ .ref a :: mSt hid rest := by
    simp [mSt, mc]
  rw [e]
  exact j_callV C Rm Y (mSt hid As) (mSt hid rest) (hM w hw) hc hci hrc h1 hd (by simp [mSt, hn]) rfl (by rw [mcsum_ok]; exact Nat.le_of_ble_eq_true h8) hR (wroom hb hr (Nat.zero_le _) (Nat.zero_le _)) (hkk hr kk)
-- calls of methods that make crowds
theorem w_wV (C : jX g cc nL own D) (Rm : jRm g q0.1 q0.2 { frames := fr0, cells := 3 * k0, slots := 604 * k0, locals := lo0 }) (Y : jY g l B H0 y0) (hb : wb q0 k0 q k) {idx n maxL fr lo τ a ci t : Nat} {fs : List vT} {r : vw_C} {y : MethodName} {bytes : ByteArray} {ret : Option FieldType} (As rest : List mV) (hM : wMet l D B H0 G k y bytes maxL ret fr lo t (vr τ a :: As) A Q') (hc : jcV own idx y bytes maxL ret n) (hg : G a = some τ) (ho : tyO τ = some (ci, fs)) (hci : vwCl[ci]? = some r) (hrc : r.1 = y.cls) (hd : decode cc pc = .ok (.invokevirtual idx, 3)) (hn : As.length = n) (hst : st = As.reverse ++ vr τ a :: rest) (h8 : Nat.ble (mcsum rest) 8 = true) (hR : fr + 1 ≤ fr0 ∧ 8 + (maxL + 11) + lo ≤ lo0)
    (kk : ∀ (r : Int) (A' : mA) (G' : tG) (k' : Nat) (q' : Nat × Nat), Q' r A' G' k' → (∀ a τ, G a = some τ → G' a = some τ) → wb q0 k0 q' k' → ∀ v, wvl t G' r v → ∀ w', hW D G' A' w' → w'.2 = q' → JJ g w' (pc + 3) (mL hid L) (v.toList ++ mSt hid rest)) : HM g D G q A pc L st := fun w hw hr => by
  subst hst
  obtain ⟨V, h1, h2⟩ := (hcell_O ho).mp (hw a τ hg)
  have e : mSt hid (As.reverse ++ vr τ a :: rest) = (mSt hid As).reverse ++ .ref a :: mSt hid rest := by
    simp [mSt, mc]
  rw [e]
  refine j_callV C Rm Y (mSt hid As) (mSt hid rest) (hM w hw) hc hci hrc h1 hd (by simp [mSt, hn]) rfl (by rw [mcsum_ok]; exact Nat.le_of_ble_eq_true h8) hR (wroom hb hr (Nat.le_refl _) (Nat.le_refl _)) ?_
  rintro v w' ⟨x, A', G', k', p1, p2, p3, p4, p5⟩
  rw [hr] at p5
  exact kk x A' G' k' w'.2 p2 p3 (hb.trans p5) v p1 w' p4 rfl
theorem wk0 {A' : mA} {G' : tG} {q' : Nat × Nat} {r : Int} {rest : List mV} (kk : HM g D G' q' A' pc L rest) : ∀ v, wvl 0 G' r v → ∀ w', hW D G' A' w' → w'.2 = q' → JJ g w' pc (mL hid L) (v.toList ++ mSt hid rest) := fun v hv w' h1 h2 => by
  have hv : v = none := hv
  subst hv
  exact kk w' h1 h2
theorem wk1 {A' : mA} {G' : tG} {q' : Nat × Nat} {r : Int} {rest : List mV} (kk : HM g D G' q' A' pc L (vi r :: rest)) : ∀ v, wvl 1 G' r v → ∀ w', hW D G' A' w' → w'.2 = q' → JJ g w' pc (mL hid L) (v.toList ++ mSt hid rest) := fun v hv w' h1 h2 => by
  have hv : v = some (.int (Int32.ofInt r)) := hv
  subst hv
  exact kk w' h1 h2
theorem wk3 {A' : mA} {G' : tG} {q' : Nat × Nat} {r : Int} {rest : List mV} {t : Nat} (k1 : 0 ≤ r → G' r.toNat = some t → HM g D G' q' A' pc L (vr t r.toNat :: rest)) (k2 : r < 0 → HM g D G' q' A' pc L (vn :: rest)) : ∀ v, wvl (t + 3) G' r v → ∀ w', hW D G' A' w' → w'.2 = q' → JJ g w' pc (mL hid L) (v.toList ++ mSt hid rest) := fun v hv w' h1 h2 => by
  have hv : (r < 0 ∧ v = some .null) ∨ (0 ≤ r ∧ v = some (.ref r.toNat) ∧ G' r.toNat = some t) := hv
  rcases hv with ⟨e1, rfl⟩ | ⟨e1, rfl, e3⟩
  · exact k2 e1 w' h1 h2
  · exact k1 e1 e3 w' h1 h2
-- null on top
theorem wn_ifnonnull (C : jX g cc nL own D) {off : Int} (hd : decode cc pc = .ok (.ifnonnull off, 3)) (kk : HM g D G q A (pc + 3) L st) : HM g D G q A pc L (vn :: st) := fun w h1 h2 => j_ifnonnullN C hd (kk w h1 h2)
theorem wn_ifnull (C : jX g cc nL own D) {off : Int} {tgt : Nat} (hd : decode cc pc = .ok (.ifnull off, 3)) (ht : (pc : Int) + off = (tgt : Int)) (kk : HM g D G q A tgt L st) : HM g D G q A pc L (vn :: st) := fun w h1 h2 => j_ifnullN C hd ht (kk w h1 h2)
theorem wn_anull (C : jX g cc nL own D) (hd : decode cc pc = .ok (.aconst_null, 1)) (kk : HM g D G q A (pc + 1) L (vn :: st)) : HM g D G q A pc L st := fun w hw hr => j1_aconst_null C.1 (by rw [C.2.1]; exact hd) (kk w hw hr)
-- returns
theorem w_iret {rm : Room} (C : jX g cc nL own D) (Rm : jRm g q0.1 q0.2 rm) (E : jEnd g (wPost D G0 k0 q0 1 Q) (3 * k0) (604 * k0) (some .int)) (hgo : ∀ a τ, G0 a = some τ → G a = some τ) (hb : wb q0 k0 q k) {x : Int} (hd : decode cc pc = .ok (.ireturn, 1)) (hp : Q x A G k) : HM g D G q A pc L [vi x] := fun w hw hr => j_iret C Rm E hd ⟨x, A, G, k, rfl, hp, hgo, hw, by rw [hr]; exact hb⟩ (wroom hb hr (Nat.zero_le _) (Nat.zero_le _)).1 (wroom hb hr (Nat.zero_le _) (Nat.zero_le _)).2
theorem w_zret {rm : Room} (C : jX g cc nL own D) (Rm : jRm g q0.1 q0.2 rm) (E : jEnd g (wPost D G0 k0 q0 1 Q) (3 * k0) (604 * k0) (some .boolean)) (hgo : ∀ a τ, G0 a = some τ → G a = some τ) (hb : wb q0 k0 q k) {x : Int} (hz : x = 0 ∨ x = 1) (hd : decode cc pc = .ok (.ireturn, 1)) (hp : Q x A G k) : HM g D G q A pc L [vi x] := fun w hw hr => j_zret C Rm E (zN hz).1 hd ⟨x, A, G, k, rfl, hp, hgo, hw, by rw [hr]; exact hb⟩ (wroom hb hr (Nat.zero_le _) (Nat.zero_le _)).1 (wroom hb hr (Nat.zero_le _) (Nat.zero_le _)).2
theorem w_lret {rm : Room} (C : jX g cc nL own D) (Rm : jRm g q0.1 q0.2 rm) (E : jEnd g (wPost D G0 k0 q0 2 Q) (3 * k0) (604 * k0) (some .long)) (hgo : ∀ a τ, G0 a = some τ → G a = some τ) (hb : wb q0 k0 q k) {x : Int} (hd : decode cc pc = .ok (.lreturn, 1)) (hp : Q x A G k) : HM g D G q A pc L [vl x] := fun w hw hr => j_lret C Rm E hd ⟨x, A, G, k, rfl, hp, hgo, hw, by rw [hr]; exact hb⟩ (wroom hb hr (Nat.zero_le _) (Nat.zero_le _)).1 (wroom hb hr (Nat.zero_le _) (Nat.zero_le _)).2
theorem w_vret {rm : Room} (C : jX g cc nL own D) (Rm : jRm g q0.1 q0.2 rm) (E : jEnd g (wPost D G0 k0 q0 0 Q) (3 * k0) (604 * k0) none) (hgo : ∀ a τ, G0 a = some τ → G a = some τ) (hb : wb q0 k0 q k) (hd : decode cc pc = .ok (.return_, 1)) (hp : Q 0 A G k) : HM g D G q A pc L [] := fun w hw hr => j_vret C Rm E hd ⟨0, A, G, k, rfl, hp, hgo, hw, by rw [hr]; exact hb⟩ (wroom hb hr (Nat.zero_le _) (Nat.zero_le _)).1 (wroom hb hr (Nat.zero_le _) (Nat.zero_le _)).2
theorem w_aret {rm : Room} (C : jX g cc nL own D) (Rm : jRm g q0.1 q0.2 rm) {Cn : String} {f a : Nat} (E : jEnd g (wPost D G0 k0 q0 (f + 3) Q) (3 * k0) (604 * k0) (some (.object Cn))) (hgo : ∀ a τ, G0 a = some τ → G a = some τ) (hb : wb q0 k0 q k) (hg : G a = some f) (hd : decode cc pc = .ok (.areturn, 1)) (hp : Q a A G k) : HM g D G q A pc L [vr f a] := fun w hw hr => j_aret C Rm E (Or.inr ⟨_, rfl⟩) hd ⟨a, A, G, k, Or.inr ⟨Int.natCast_nonneg a, rfl, hg⟩, hp, hgo, hw, by rw [hr]; exact hb⟩ (wroom hb hr (Nat.zero_le _) (Nat.zero_le _)).1 (wroom hb hr (Nat.zero_le _) (Nat.zero_le _)).2
theorem wn_aret {rm : Room} (C : jX g cc nL own D) (Rm : jRm g q0.1 q0.2 rm) {Cn : String} {f : Nat} (E : jEnd g (wPost D G0 k0 q0 (f + 3) Q) (3 * k0) (604 * k0) (some (.object Cn))) (hgo : ∀ a τ, G0 a = some τ → G a = some τ) (hb : wb q0 k0 q k) (hd : decode cc pc = .ok (.areturn, 1)) (hp : Q (-1) A G k) : HM g D G q A pc L [vn] := fun w hw hr => j_aret C Rm E (Or.inl rfl) hd ⟨-1, A, G, k, Or.inl ⟨by decide, rfl⟩, hp, hgo, hw, by rw [hr]; exact hb⟩ (wroom hb hr (Nat.zero_le _) (Nat.zero_le _)).1 (wroom hb hr (Nat.zero_le _) (Nat.zero_le _)).2
/-- Math.max, behind a making -/
theorem w_mmax {fr1 lo1 : Nat} (C : jX g cc nL own D) (Rm : jRm g q0.1 q0.2 { frames := fr1, cells := 3 * k0, slots := 604 * k0, locals := lo1 }) (hb : wb q0 k0 q k) {idx : Nat} {x y : Int} (hc : jcM own idx Lib.Math.max.name Lib.Math.max.code) (hd : decode cc pc = .ok (.invokestatic idx, 3)) (hf : 1 ≤ fr1) (hl : mcsum st + 13 ≤ lo1) (hx : -2147483648 ≤ x ∧ x ≤ 2147483647) (hy : -2147483648 ≤ y ∧ y ≤ 2147483647) (kk : ∀ z : Int, (x < y ∧ z = y ∨ ¬ x < y ∧ z = x) → HM g D G q A (pc + 3) L (vi z :: st)) : HM g D G q A pc L (vi y :: vi x :: st) := fun w hw hr => by
  refine j_mmax C Rm hc hd hf (by rw [mcsum_ok]; exact hl) (wroom hb hr (Nat.zero_le _) (Nat.zero_le _)).1 (wroom hb hr (Nat.zero_le _) (Nat.zero_le _)).2 ?_
  by_cases h : x < y
  · rw [if_pos ((iLt hx hy).mpr h)]
    exact kk y (Or.inl ⟨h, rfl⟩) w hw hr
  · rw [if_neg (fun q => h ((iLt hx hy).mp q))]
    exact kk x (Or.inr ⟨h, rfl⟩) w hw hr
-- fields and elements that may be null
theorem w_getn (C : jX g cc nL own D) {τ a idx ci p τ' : Nat} {fs : List vT} {t : vT} (hd : decode cc pc = .ok (.getfield idx, 3)) (hf : jF own idx ci p) (hg : G a = some τ) (ho : tyO τ = some (ci, fs)) (hp : fs[p]? = some t) (ht : t.1 = 5) (h2 : t.2.1.toNat = τ') (k1 : 0 ≤ A τ a p → G (A τ a p).toNat = some τ' → HM g D G q A (pc + 3) L (vr τ' (A τ a p).toNat :: st)) (k2 : ¬ 0 ≤ A τ a p → HM g D G q A (pc + 3) L (vn :: st)) : HM g D G q A pc L (vr τ a :: st) := fun w hw hq => by
  obtain ⟨V, h1, h3⟩ := (hcell_O ho).mp (hw a τ hg)
  have h4 := h3 p t hp
  unfold hv at h4
  rw [ht] at h4
  have h4 : A τ a p < 0 ∧ V p = .null ∨ 0 ≤ A τ a p ∧ V p = .ref (A τ a p).toNat ∧ G (A τ a p).toNat = some t.2.1.toNat := h4
  rcases h4 with ⟨e1, e2⟩ | ⟨e1, e2, e3⟩
  · exact j_get C hd hf h1 e2 (k2 (by omega) w hw hq)
  · rw [h2] at e3
    exact j_get C hd hf h1 e2 (k1 e1 e3 w hw hq)
theorem w_getnN (C : jX g cc nL own D) {τ a idx ci p τ' : Nat} {fs : List vT} {t : vT} (hd : decode cc pc = .ok (.getfield idx, 3)) (hf : jFn own idx ci p) (hg : G a = some τ) (ho : tyO τ = some (ci, fs)) (hp : fs[p]? = some t) (ht : t.1 = 5) (h2 : t.2.1.toNat = τ') (k1 : 0 ≤ A τ a p → G (A τ a p).toNat = some τ' → HM g D G q A (pc + 3) L (vr τ' (A τ a p).toNat :: st)) (k2 : ¬ 0 ≤ A τ a p → HM g D G q A (pc + 3) L (vn :: st)) : HM g D G q A pc L (vr τ a :: st) := fun w hw hq => by
  obtain ⟨V, h1, h3⟩ := (hcell_O ho).mp (hw a τ hg)
  have h4 := h3 p t hp
  unfold hv at h4
  rw [ht] at h4
  have h4 : A τ a p < 0 ∧ V p = .null ∨ 0 ≤ A τ a p ∧ V p = .ref (A τ a p).toNat ∧ G (A τ a p).toNat = some t.2.1.toNat := h4
  rcases h4 with ⟨e1, e2⟩ | ⟨e1, e2, e3⟩
  · exact j_getN C hd hf h1 e2 (k2 (by omega) w hw hq)
  · rw [h2] at e3
    exact j_getN C hd hf h1 e2 (k1 e1 e3 w hw hq)
theorem w_aaldn (C : jX g cc nL own D) {τ a n t τ' : Nat} {e : vT} {i : Int} {ty : FieldType} (hd : decode cc pc = .ok (.aaload, 1)) (hty : jAT[t + 3]? = some ty) (hr9 : ty.isReference = true) (hg : G a = some τ) (ho : tyO τ = none) (ha : tyA τ = some (t + 3, n, e)) (ht : e.1 = 5) (h2 : e.2.1.toNat = τ') (hn : n ≤ 2147483647) (h0 : 0 ≤ i) (h1 : i < n) (k1 : 0 ≤ A τ a i.toNat → G (A τ a i.toNat).toNat = some τ' → HM g D G q A (pc + 1) L (vr τ' (A τ a i.toNat).toNat :: st)) (k2 : ¬ 0 ≤ A τ a i.toNat → HM g D G q A (pc + 1) L (vn :: st)) : HM g D G q A pc L (vi i :: vr τ a :: st) := fun w hw hq => by
  obtain ⟨f, hc, hf⟩ := (hcell_R ho ha).mp (hw a τ hg)
  obtain ⟨e1, e2, e3⟩ := iC h0 h1 hn
  have h4 := hf _ e3
  unfold hv at h4
  rw [ht] at h4
  have h4 : A τ a i.toNat < 0 ∧ va_rf (f i.toNat) = .null ∨ 0 ≤ A τ a i.toNat ∧ va_rf (f i.toNat) = .ref (A τ a i.toNat).toNat ∧ G (A τ a i.toNat).toNat = some e.2.1.toNat := h4
  rcases h4 with ⟨z1, z2⟩ | ⟨z1, z2, z3⟩
  · exact j_aald (v := .null) C hd hty hr9 hc e2 (by rw [e1]; exact z2) (k2 (by omega) w hw hq)
  · rw [h2] at z3
    exact j_aald (v := .ref (A τ a i.toNat).toNat) C hd hty hr9 hc e2 (by rw [e1]; exact z2) (k1 z1 z3 w hw hq)
theorem h_aast (C : jX g cc nL own D) {τ a n t τ' v ci : Nat} {fs : List vT} {r : vw_C} {e : vT} {i : Int} (hd : decode cc pc = .ok (.aastore, 1)) (hr : vwCl[ci]? = some r) (hty : jAT[t + 3]? = some (.object r.1)) (hg : G a = some τ) (ho : tyO τ = none) (ha : tyA τ = some (t + 3, n, e)) (ht : e.1 = 5) (h2 : e.2.1.toNat = τ') (hv : G v = some τ') (ho2 : tyO τ' = some (ci, fs)) (hn : n ≤ 2147483647) (h0 : 0 ≤ i) (h1 : i < n) (kk : HM g D G q (mu A τ a i.toNat (v : Int)) (pc + 1) L st) : HM g D G q A pc L (vr τ' v :: vi i :: vr τ a :: st) := fun w hw hq => by
  obtain ⟨f, hc, hf⟩ := (hcell_R ho ha).mp (hw a τ hg)
  obtain ⟨e1, e2, e3⟩ := iC h0 h1 hn
  obtain ⟨V, hv1, -⟩ := (hcell_O ho2).mp (hw v τ' hv)
  refine j_aast C hd hr hty hc hv1 e2 ?_
  rw [e1]
  refine kk _ (hw.set hg (fun f' k' e => mu_fk A _ _ e) ((hcell_R ho ha).mpr ⟨_, rfl, fun j hj => ?_⟩)) hq
  by_cases z : j = i.toNat
  · rw [z, mu_at, va_up_self]
    exact hrefw (Or.inr ht) h2 hv
  · rw [mu_ne A _ (fun r => z r.2.2), va_up_ne _ _ z]
    exact hf j hj
end W1
/-! a crowd is made -/
def crI (A : mA) (c s t : Nat) : mA := fun τ a j => if τ = 0 ∧ a = c then (if j = 0 then (s : Int) else if j = 1 then (t : Int) else 0) else if τ = 31 ∧ a = s then 0 else if τ = 32 ∧ a = t then 0 else A τ a j
def crG (G : tG) (c s t : Nat) : tG := gext (xN c s t) G
def crF (G : tG) (c s t : Nat) : Prop := G c = none ∧ G s = none ∧ G t = none ∧ c < s ∧ c < t ∧ s ≠ t
theorem gext_o {G : tG} {c s t a : Nat} (h1 : a ≠ c) (h2 : a ≠ s) (h3 : a ≠ t) : crG G c s t a = G a := by
  have e1 : (c == a) = false := by simpa using Ne.symm h1
  have e2 : (s == a) = false := by simpa using Ne.symm h2
  have e3 : (t == a) = false := by simpa using Ne.symm h3
  simp [crG, gext, List.find?, e1, e2, e3]
theorem crG_go {G : tG} {c s t : Nat} (h : crF G c s t) : ∀ a τ, G a = some τ → crG G c s t a = some τ := fun a τ ha => by
  obtain ⟨h1, h2, h3, -⟩ := h
  rw [gext_o (fun e => by rw [e, h1] at ha; cases ha) (fun e => by rw [e, h2] at ha; cases ha) (fun e => by rw [e, h3] at ha; cases ha)]
  exact ha
section W2
variable {g : jG} {D : va_G} {G : tG} {q q0 : Nat × Nat} {k k0 : Nat} {A : mA} {cc : ByteArray} {nL pc : Nat} {own : String} {L : List (Nat × mV)} {st : List mV} {l : Launch} {B : Nat} {H0 : Heap} {y0 : MethodName} {fr0 lo0 : Nat}
theorem hW_none {w : jW} (hw : hW D G A w) {a : Nat} (h : w.1 a = none) : G a = none := by
  cases e : G a with
  | none => rfl
  | some τ =>
    have hc := hw a τ e
    rw [h] at hc
    unfold hcell at hc
    split at hc
    · obtain ⟨V, q, -⟩ := hc; cases q
    · split at hc
      · split at hc
        · obtain ⟨f, q, -⟩ := hc; cases q
        · obtain ⟨f, q, -⟩ := hc; cases q
        · obtain ⟨f, q, -⟩ := hc; cases q
        · obtain ⟨f, q, -⟩ := hc; cases q
      · exact hc.elim
theorem w_new (C : jX g cc nL own D) (Rm : jRm g q0.1 q0.2 { frames := fr0, cells := 3 * k0, slots := 604 * k0, locals := lo0 }) (Y : jY g l B H0 y0) (hb : wb q0 k0 q (k + 1)) {idx idx2 : Nat} (hd1 : decode cc pc = .ok (.new idx, 3)) (hnw : jNew own idx 0 4 v0_0) (hb2 : sblk cc [(pc + 3, .dup, .null)]) (hd3 : decode cc (pc + 4) = .ok (.invokespecial idx2, 3)) (hcl : jcIn own idx2 y_Crowd_init b_Crowd_init 1 0) (h7 : Nat.ble (mcsum st) 7 = true) (hR : 2 ≤ fr0 ∧ 60 ≤ lo0)
    (kk : ∀ (c s t : Nat) (q' : Nat × Nat), crF G c s t → wb q0 k0 q' k → crG G c s t c = some 0 → HM g D (crG G c s t) q' (crI A c s t) (pc + 7) L (vr 0 c :: st)) : HM g D G q A pc L st := fun w hw hr => by
  have h7' : ((mSt hid st).map fun v => v.category).sum ≤ 7 := by
    rw [mcsum_ok]
    exact Nat.le_of_ble_eq_true h7
  have r1 := wroom (c := 1) (s := 4) hb hr (by omega) (by omega)
  have r3 := wroom (c := 3) (s := 604) hb hr (by omega) (by omega)
  refine j_new C Rm hd1 hnw r1.1 r1.2 (fun c hc => ?_)
  refine jnv (fun w1 e1 => ?_)
  have hm : w1.1 c = some (.inr (0, v0_0)) := jus e1
  have hk : w1.2.1 = w.2.1 + 1 ∧ w1.2.2 = w.2.2 + 4 := by rw [e1]; exact ⟨rfl, rfl⟩
  refine j_blk (pc + 4) (mL hid L) (.ref c :: .ref c :: mSt hid st) C hb2 (by
    show (match Nat.beq (pc + 3) (pc + 3) with | true => _ | false => _) = _
    rw [Nat.beq_refl]
    rfl) ?_
  refine j_callIn C Rm Y [] (.ref c :: mSt hid st) (c_Crowd_init l D B H0 w1 c v0_0 hm) hcl hd3 rfl rfl (by simp only [List.map_cons, List.sum_cons]; show 1 + _ ≤ 8; omega) ⟨by have := hR.1; omega, by have := hR.2; omega⟩ ⟨by have := r3.1; rw [hk.1]; show w.2.1 + 1 + 2 ≤ _; omega, by have := r3.2; rw [hk.2]; show w.2.2 + 4 + 600 ≤ _; omega⟩ (fun v w2 p => ?_)
  obtain ⟨rfl, hk2, G2, V9, s, t, l1, l2, mo, h0, h1, h2, h3, m1, m2⟩ := p
  have hne : s ≠ t := fun e => by
    rw [e, m2] at m1
    have := (Prod.mk.inj (Prod.mk.inj (Sum.inl.inj (Option.some.inj m1))).2).2
    cases this
  have hold : ∀ b e, w.1 b = some e → w2.1 b = some e := fun b e hb => by
    have hbq := Nat.ne_of_lt (hc b e hb)
    exact (G2 b e (jun e1 hb hbq)).1 hbq
  have lcs : c < s := l1 c _ hm
  have lct : c < t := l2 c _ hm
  have fre : ∀ x, c ≤ x → G x = none := fun x hx => by
    refine hW_none hw ?_
    cases e : w.1 x with
    | none => rfl
    | some e9 => exact absurd (hc x e9 e) (by omega)
  have hF : crF G c s t := ⟨fre c (Nat.le_refl c), fre s (by omega), fre t (by omega), lcs, lct, hne⟩
  obtain ⟨n1, n2, n3⟩ := xN_ok (G := G) lcs lct hne
  have go := crG_go hF
  have hb9 : wb q0 k0 w2.2 k := by
    obtain ⟨b1, b2⟩ := hb
    have e3 : w2.2.1 = q.1 + 3 := by rw [hk2.1, hk.1, hr]
    have e4 : w2.2.2 = q.2 + 604 := by rw [hk2.2, hk.2, hr]
    exact ⟨by omega, by omega⟩
  refine kk c s t w2.2 hF hb9 n1 w2 (fun a τ ha => ?_) rfl
  by_cases ac : a = c
  · subst ac
    have ha : crG G a s t a = some τ := ha
    rw [show crG G a s t a = some 0 from n1] at ha
    cases ha
    refine (hcell_O (rfl : tyO 0 = some (0, _))).mpr ⟨V9, mo, fun j ty hj => ?_⟩
    have ev : crI A a s t 0 a j = (if j = 0 then (s : Int) else if j = 1 then (t : Int) else 0) := if_pos ⟨rfl, rfl⟩
    rw [ev]
    match j, hj with
    | 0, hj => cases hj; rw [h0]; exact ⟨rfl, n2⟩
    | 1, hj => cases hj; rw [h1]; exact ⟨rfl, n3⟩
    | 2, hj => cases hj; rw [h2]; rfl
    | 3, hj => cases hj; rw [h3]; rfl
  by_cases as : a = s
  · subst as
    rw [show crG G c a t a = some 31 from n2] at ha
    cases ha
    refine (hcell_I (rfl : tyO 31 = none) rfl).mpr ⟨_, m1, fun j hj => ?_⟩
    have ev : crI A c a t 31 a j = 0 := by
      unfold crI
      rw [if_neg (fun r => absurd r.1 (by decide)), if_pos ⟨rfl, rfl⟩]
    rw [ev]
    rfl
  by_cases at' : a = t
  · subst at'
    rw [show crG G c s a a = some 32 from n3] at ha
    cases ha
    refine (hcell_J (rfl : tyO 32 = none) rfl).mpr ⟨_, m2, fun j hj => ?_⟩
    have ev : crI A c s a 32 a j = 0 := by
      unfold crI
      rw [if_neg (fun r => absurd r.1 (by decide)), if_neg (fun r => absurd r.1 (by decide)), if_pos ⟨rfl, rfl⟩]
    rw [ev]
    rfl
  · rw [gext_o ac as at'] at ha
    have hc0 := hw a τ ha
    have e9 : ∃ e, w.1 a = some e := by
      cases e : w.1 a with
      | none => rw [hW_none hw e] at ha; cases ha
      | some x => exact ⟨x, rfl⟩
    obtain ⟨e, he⟩ := e9
    rw [hold a e he, ← he]
    refine hcell_congr (A := A) ?_ (hcell_mono go hc0)
    funext j
    unfold crI
    rw [if_neg (fun r => ac r.2), if_neg (fun r => as r.2), if_neg (fun r => at' r.2)]
end W2
