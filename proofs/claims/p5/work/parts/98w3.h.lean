/-! THE H LAYER: references, switches, words (own work) -/
section H3
variable {g : jG} {D : va_G} {G : tG} {q : Nat × Nat} {A : mA} {cc : ByteArray} {nL pc : Nat} {own : String} {L : List (Nat × mV)} {st : List mV} {l : Launch} {B : Nat} {H0 : Heap} {y0 : MethodName} {rm : Room} {post : Option mV → mA → Prop}
theorem hv4 {t : vT} {τ' : Nat} (ht : t.1 = 4) (h2 : t.2.1.toNat = τ') {x : Int} {v : Value} (h : hv G t x v) : v = .ref x.toNat ∧ G x.toNat = some τ' := by
  unfold hv at h
  rw [ht] at h
  have h : v = .ref x.toNat ∧ G x.toNat = some t.2.1.toNat := h
  rw [h2] at h
  exact h
theorem hv5 {t : vT} {τ' : Nat} (ht : t.1 = 5) (h2 : t.2.1.toNat = τ') {x : Int} (hx : 0 ≤ x) {v : Value} (h : hv G t x v) : v = .ref x.toNat ∧ G x.toNat = some τ' := by
  unfold hv at h
  rw [ht] at h
  have h : x < 0 ∧ v = .null ∨ 0 ≤ x ∧ v = .ref x.toNat ∧ G x.toNat = some t.2.1.toNat := h
  rw [h2] at h
  rcases h with h | h
  · omega
  · exact h.2
theorem h_getr4 (C : jX g cc nL own D) {τ a idx ci p τ' : Nat} {fs : List vT} {t : vT} (hd : decode cc pc = .ok (.getfield idx, 3)) (hf : jF own idx ci p) (hg : G a = some τ) (ho : tyO τ = some (ci, fs)) (hp : fs[p]? = some t) (ht : t.1 = 4) (h2 : t.2.1.toNat = τ') (kk : G (A τ a p).toNat = some τ' → HM g D G q A (pc + 3) L (vr τ' (A τ a p).toNat :: st)) : HM g D G q A pc L (vr τ a :: st) := fun w hw hq => by
  obtain ⟨V, h1, h3⟩ := (hcell_O ho).mp (hw a τ hg)
  obtain ⟨e1, e2⟩ := hv4 ht h2 (h3 p t hp)
  exact j_get C hd hf h1 e1 (kk e2 w hw hq)
theorem h_getr4N (C : jX g cc nL own D) {τ a idx ci p τ' : Nat} {fs : List vT} {t : vT} (hd : decode cc pc = .ok (.getfield idx, 3)) (hf : jFn own idx ci p) (hg : G a = some τ) (ho : tyO τ = some (ci, fs)) (hp : fs[p]? = some t) (ht : t.1 = 4) (h2 : t.2.1.toNat = τ') (kk : G (A τ a p).toNat = some τ' → HM g D G q A (pc + 3) L (vr τ' (A τ a p).toNat :: st)) : HM g D G q A pc L (vr τ a :: st) := fun w hw hq => by
  obtain ⟨V, h1, h3⟩ := (hcell_O ho).mp (hw a τ hg)
  obtain ⟨e1, e2⟩ := hv4 ht h2 (h3 p t hp)
  exact j_getN C hd hf h1 e1 (kk e2 w hw hq)
theorem h_getr5 (C : jX g cc nL own D) {τ a idx ci p τ' : Nat} {fs : List vT} {t : vT} (hd : decode cc pc = .ok (.getfield idx, 3)) (hf : jF own idx ci p) (hg : G a = some τ) (ho : tyO τ = some (ci, fs)) (hp : fs[p]? = some t) (ht : t.1 = 5) (h2 : t.2.1.toNat = τ') (hx : 0 ≤ A τ a p) (kk : G (A τ a p).toNat = some τ' → HM g D G q A (pc + 3) L (vr τ' (A τ a p).toNat :: st)) : HM g D G q A pc L (vr τ a :: st) := fun w hw hq => by
  obtain ⟨V, h1, h3⟩ := (hcell_O ho).mp (hw a τ hg)
  obtain ⟨e1, e2⟩ := hv5 ht h2 hx (h3 p t hp)
  exact j_get C hd hf h1 e1 (kk e2 w hw hq)
theorem h_getr5N (C : jX g cc nL own D) {τ a idx ci p τ' : Nat} {fs : List vT} {t : vT} (hd : decode cc pc = .ok (.getfield idx, 3)) (hf : jFn own idx ci p) (hg : G a = some τ) (ho : tyO τ = some (ci, fs)) (hp : fs[p]? = some t) (ht : t.1 = 5) (h2 : t.2.1.toNat = τ') (hx : 0 ≤ A τ a p) (kk : G (A τ a p).toNat = some τ' → HM g D G q A (pc + 3) L (vr τ' (A τ a p).toNat :: st)) : HM g D G q A pc L (vr τ a :: st) := fun w hw hq => by
  obtain ⟨V, h1, h3⟩ := (hcell_O ho).mp (hw a τ hg)
  obtain ⟨e1, e2⟩ := hv5 ht h2 hx (h3 p t hp)
  exact j_getN C hd hf h1 e1 (kk e2 w hw hq)
theorem h_aald4 (C : jX g cc nL own D) {τ a n t τ' : Nat} {e : vT} {i : Int} {ty : FieldType} (hd : decode cc pc = .ok (.aaload, 1)) (hty : jAT[t + 3]? = some ty) (hr9 : ty.isReference = true) (hg : G a = some τ) (ho : tyO τ = none) (ha : tyA τ = some (t + 3, n, e)) (ht : e.1 = 4) (h2 : e.2.1.toNat = τ') (hn : n ≤ 2147483647) (h0 : 0 ≤ i) (h1 : i < n) (kk : G (A τ a i.toNat).toNat = some τ' → HM g D G q A (pc + 1) L (vr τ' (A τ a i.toNat).toNat :: st)) : HM g D G q A pc L (vi i :: vr τ a :: st) := fun w hw hq => by
  obtain ⟨f, hc, hf⟩ := (hcell_R ho ha).mp (hw a τ hg)
  obtain ⟨e1, e2, e3⟩ := iC h0 h1 hn
  obtain ⟨k1, k2⟩ := hv4 ht h2 (hf _ e3)
  exact j_aald (v := .ref (A τ a i.toNat).toNat) C hd hty hr9 hc e2 (by rw [e1]; exact k1) (kk k2 w hw hq)
theorem h_aald5 (C : jX g cc nL own D) {τ a n t τ' : Nat} {e : vT} {i : Int} {ty : FieldType} (hd : decode cc pc = .ok (.aaload, 1)) (hty : jAT[t + 3]? = some ty) (hr9 : ty.isReference = true) (hg : G a = some τ) (ho : tyO τ = none) (ha : tyA τ = some (t + 3, n, e)) (ht : e.1 = 5) (h2 : e.2.1.toNat = τ') (hn : n ≤ 2147483647) (h0 : 0 ≤ i) (h1 : i < n) (hx : 0 ≤ A τ a i.toNat) (kk : G (A τ a i.toNat).toNat = some τ' → HM g D G q A (pc + 1) L (vr τ' (A τ a i.toNat).toNat :: st)) : HM g D G q A pc L (vi i :: vr τ a :: st) := fun w hw hq => by
  obtain ⟨f, hc, hf⟩ := (hcell_R ho ha).mp (hw a τ hg)
  obtain ⟨e1, e2, e3⟩ := iC h0 h1 hn
  obtain ⟨k1, k2⟩ := hv5 ht h2 hx (hf _ e3)
  exact j_aald (v := .ref (A τ a i.toNat).toNat) C hd hty hr9 hc e2 (by rw [e1]; exact k1) (kk k2 w hw hq)
theorem h_alen2 (C : jX g cc nL own D) {τ a t n : Nat} {e : vT} {ty : FieldType} (hd : decode cc pc = .ok (.arraylength, 1)) (hty : jAT[t + 3]? = some ty) (hg : G a = some τ) (ho : tyO τ = none) (ha : tyA τ = some (t + 3, n, e)) (kk : HM g D G q A (pc + 1) L (vi n :: st)) : HM g D G q A pc L (vr τ a :: st) := fun w hw hr => by
  obtain ⟨f, hc, hf⟩ := (hcell_R ho ha).mp (hw a τ hg)
  exact j_alen C hd hty hc rfl (by rw [← Int32.ofInt_eq_ofNat]; exact kk w hw hr)
theorem h_null (C : jX g cc nL own D) {τ a idx ci p : Nat} {fs : List vT} {t : vT} {ty : FieldType} (hd : decode cc pc = .ok (.aconst_null, 1)) (hd2 : decode cc (pc + 1) = .ok (.putfield idx, 3)) (hf : jFp own idx ci p ty) (hfit : narrow ty .null = .null ∧ fits ty .null = true) (hg : G a = some τ) (ho : tyO τ = some (ci, fs)) (hp : fs[p]? = some t) (ht : t.1 = 5) (kk : HM g D G q (mu A τ a p (-1)) (pc + 4) L st) : HM g D G q A pc L (vr τ a :: st) := fun w hw hq => by
  obtain ⟨V, h1, h3⟩ := (hcell_O ho).mp (hw a τ hg)
  refine j1_aconst_null C.1 (by rw [C.2.1]; exact hd) ?_
  refine j_put C hd2 hf h1 hfit.1 hfit.2 (kk _ (hw.fld hg ho h3 (fun t' ht' => ?_)) hq)
  rw [hp] at ht'
  cases ht'
  unfold hv
  rw [ht]
  exact Or.inl ⟨by decide, rfl⟩
theorem look_out (d k : Int) : ∀ ps : List (Int × Int), (∀ p ∈ ps, ¬ k = p.1) → Op.lookupswitch.offset ps d k = d := by
  intro ps
  induction ps with
  | nil => intro _; rfl
  | cons p ps ih =>
    intro h
    obtain ⟨a, o⟩ := p
    rw [Op.lookupswitch.offset_cons]
    have h1 : ¬ k = a := h (a, o) List.mem_cons_self
    split
    · rename_i e
      first
        | exact absurd e h1
        | exact absurd e.symm h1
        | exact absurd (eq_of_beq e) h1
        | exact absurd (eq_of_beq e).symm h1
    · exact ih (fun p hp => h p (List.mem_cons_of_mem _ hp))
theorem h_look (C : jX g cc nL own D) {dflt : Int} {ps : Array (Int × Int)} {len : Nat} {x : Int} {tgt : Nat} (hd : decode cc pc = .ok (.lookupswitch dflt ps, len)) (hb : ((ps.toList.zip (ps.toList.drop 1)).all (fun (a, next) => a.1 < next.1)) = true) (hx : -2147483648 ≤ x ∧ x ≤ 2147483647) (ht : (pc : Int) + Op.lookupswitch.offset ps.toList dflt x = (tgt : Int)) (kk : HM g D G q A tgt L st) : HM g D G q A pc L (vi x :: st) := fun w hw hr => by
  have k := kk w hw hr
  obtain ⟨⟨c1, c2, -⟩, rfl, -⟩ := C
  refine fun H locs ls h1 h2 h3 h4 h5 => lv_lookup (x := Int32.ofInt x) c1 c2 hd hb rfl (by rw [iR hx]; exact ht) (k H locs ls h1 h2 h3 h4 h5)
theorem h_word (C : jX g cc nL own D) (Rm : jRm g q.1 q.2 rm) (Y : jY g l B H0 y0) {idx : Nat} {x : Int} (hc : jcS own idx y_Read_wordOf b_Read_wordOf 1 (some (.object "java/lang/String")) 1) (hx : 0 ≤ x ∧ x ≤ 5) (hd : decode cc pc = .ok (.invokestatic idx, 3)) (h8 : Nat.ble (mcsum st) 8 = true) (hR : 0 + 1 ≤ rm.frames ∧ 8 + (1 + 11) + 0 ≤ rm.locals) (kk : HM g D G q A (pc + 3) L (vr 90 (jsK D x.toNat) :: st)) : HM g D G q A pc L (vi x :: st) := fun w hw hr => by
  have e : mSt hid (vi x :: st) = ([.int (nI x.toNat)] : List Value).reverse ++ mSt hid st := by
    have e1 : nI x.toNat = Int32.ofInt x := by
      rw [nI_oi (by omega)]
      congr 1
      omega
    simp [mSt, mc, e1]
  rw [e]
  refine j_callS C Rm Y (mSt hid st) (c_Read_wordOf l D B H0 w x.toNat (by omega)) hc hd rfl rfl (by rw [mcsum_ok]; exact Nat.le_of_ble_eq_true h8) hR (hrm hr Rm) (fun v w' hp => ?_)
  obtain ⟨rfl, rfl⟩ := hp
  exact kk w' hw hr
/-- whether a word stands there -/
def kSpelt (T : Nat → Int) (i : Nat) (b a n : Int) : Bool := decide (((jlen.getD i 0 : Nat) : Int) = a - b) && decide (0 ≤ b) && decide (a ≤ n) && (List.range (jlen.getD i 0)).all (fun j => decide (Int32.ofInt (T (b.toNat + j)) = (jbyt.getD i []).getD j 0))
theorem kSpelt_ok {T : Nat → Int} {i : Nat} {b a n : Int} {f : Nat → Int32} (hi : i < 13) (hb : 0 ≤ b ∧ b ≤ 120) (ha : 0 ≤ a ∧ a ≤ 120) (hn : 0 ≤ n ∧ n ≤ 120) (hf : ∀ j, j < 120 → f j = Int32.ofInt (T j)) : jspelt i f (Int32.ofInt b) (Int32.ofInt a) (Int32.ofInt n) ↔ kSpelt T i b a n = true := by
  have hl := jlen_lt i hi
  have z0 : (0 : Int32).toInt = 0 := rfl
  have e1 : nI (jlen.getD i 0) = Int32.ofInt a - Int32.ofInt b ↔ ((jlen.getD i 0 : Nat) : Int) = a - b := by
    rw [nI_oi (by omega), ← Int32.ofInt_sub, jeq, iR (by omega), iR (by omega)]
  have e2 : ¬ Int32.ofInt b < 0 ↔ 0 ≤ b := by
    rw [Int32.lt_iff_toInt_lt, iR (by omega), z0]
    omega
  have e3 : ¬ Int32.ofInt n < Int32.ofInt a ↔ a ≤ n := by
    rw [Int32.lt_iff_toInt_lt, iR (by omega), iR (by omega)]
    omega
  unfold jspelt kSpelt
  rw [Bool.and_eq_true, Bool.and_eq_true, Bool.and_eq_true, decide_eq_true_iff, decide_eq_true_iff, decide_eq_true_iff, e1, e2, e3, List.all_eq_true]
  have e4 : ((jlen.getD i 0 : Nat) : Int) = a - b → ∀ j, j < jlen.getD i 0 → f (Int32.ofInt b + nI j).toNatClampNeg = Int32.ofInt (T (b.toNat + j)) := fun h j hj => by
    have e5 : (Int32.ofInt b + nI j).toNatClampNeg = b.toNat + j := by
      rw [nI_oi (by omega), ← Int32.ofInt_add]
      show (Int32.ofInt (b + (j : Int))).toInt.toNat = _
      rw [iR (by omega)]
      omega
    rw [e5, hf _ (by omega)]
  constructor
  · rintro ⟨h1, h2, h3, h4⟩
    refine ⟨⟨⟨h1, h2⟩, h3⟩, fun j hj => ?_⟩
    rw [List.mem_range] at hj
    rw [decide_eq_true_iff, ← e4 h1 j hj]
    exact h4 j hj
  · rintro ⟨⟨⟨h1, h2⟩, h3⟩, h4⟩
    refine ⟨h1, h2, h3, fun j hj => ?_⟩
    rw [e4 h1 j hj]
    exact of_decide_eq_true (h4 j (List.mem_range.mpr hj))
/-- what a word's place rests on -/
abbrev kSpG (A : mA) (o : Nat) : Prop := 0 ≤ A 3 o 0 ∧ (0 ≤ A 3 o 6 ∧ A 3 o 6 ≤ 120) ∧ (0 ≤ A 3 o 4 ∧ A 3 o 4 ≤ 120) ∧ (0 ≤ A 3 o 1 ∧ A 3 o 1 ≤ 120)
theorem h_spelt (C : jX g cc nL own D) (Rm : jRm g q.1 q.2 rm) (Y : jY g l B H0 y0) {idx o : Nat} {x : Int} (hc : jcV own idx y_Read_isSpelt b_Read_isSpelt 4 (some .boolean) 1) (hg : G o = some 3) (hx : 0 ≤ x ∧ x ≤ 5) (hA : kSpG A o) (hd : decode cc pc = .ok (.invokevirtual idx, 3)) (h8 : Nat.ble (mcsum st) 8 = true) (hR : 4 + 1 ≤ rm.frames ∧ 8 + (4 + 11) + 160 ≤ rm.locals)
    (kk : HM g D G q A (pc + 3) L (vi (if kSpelt (A 20 (A 3 o 0).toNat) x.toNat (A 3 o 6) (A 3 o 4) (A 3 o 1) = true then 1 else 0) :: st)) : HM g D G q A pc L (vr 90 (jsK D x.toNat) :: vr 3 o :: st) := fun w hw hr => by
  obtain ⟨V, h1, h2⟩ := (hcell_O (rfl : tyO 3 = some (3, _))).mp (hw o 3 hg)
  obtain ⟨t0, t1⟩ := hv5 (τ' := 20) rfl rfl hA.1 (h2 0 _ rfl)
  obtain ⟨f, hc2, hf⟩ := (hcell_I (n := 120) rfl rfl).mp (hw _ 20 t1)
  have v6 := hint1 rfl (h2 6 _ rfl)
  have v4 := hint1 rfl (h2 4 _ rfl)
  have v1 := hint1 rfl (h2 1 _ rfl)
  have hM := c_Read_isSpelt l D B H0 w o (A 3 o 0).toNat x.toNat V f _ _ _ (by omega) h1 t0 v6 v4 v1 hc2 (by rw [iR (by omega)]; exact hA.2.1) (by rw [iR (by omega)]; exact hA.2.2.1) (by rw [iR (by omega)]; exact hA.2.2.2.2)
  have ok := kSpelt_ok (T := A 20 (A 3 o 0).toNat) (i := x.toNat) (f := f) (by omega) hA.2.1 hA.2.2.1 hA.2.2.2 hf
  have e : mSt hid (vr 90 (jsK D x.toNat) :: vr 3 o :: st) = ([.ref (jsK D x.toNat)] : List Value).reverse ++ .ref o :: mSt hid st := by
    simp [mSt, mc]
  rw [e]
  refine j_callV C Rm Y [.ref (jsK D x.toNat)] (mSt hid st) hM hc (r := vwCl[3]) rfl rfl h1 hd rfl rfl (by rw [mcsum_ok]; exact Nat.le_of_ble_eq_true h8) hR (hrm hr Rm) (fun v w' hp => ?_)
  obtain ⟨hp, rfl⟩ := hp
  have k := kk w' hw hr
  rcases hp with ⟨rfl, hs⟩ | ⟨rfl, hs⟩
  · rw [if_pos (ok.mp hs)] at k
    exact k
  · rw [if_neg (fun h => hs (ok.mpr h))] at k
    exact k
end H3
theorem finR {r τ : Nat} {G : tG} {r9 : Int} {m A : mA} (h : some (((r : Nat) : Int), m) = some (r9, A)) (hg : G r = some τ) : some (vr τ r) = some (vr τ r9.toNat) ∧ m = A ∧ G r9.toNat = some τ := by cases h; exact ⟨rfl, rfl, hg⟩
