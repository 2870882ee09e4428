/-! THE T LAYER: the run of a method (own work) -/
abbrev tE : Type := Nat × Instr × Nat × Value
abbrev tM : Type := List (Nat × Nat × Int)
/-- a method's run: its instructions, its class's links, its calls (index, kind, which, class), its heads -/
abbrev tMD : Type := List tE × tLK × List (Nat × Nat × Nat × Nat) × List (Nat × tS × tM)
def ival (v : Value) : Int := match v with
  | .int x => x.toInt
  | _ => 0
def mval (ρ : Nat → Value) (q : Nat × Nat × Int) : Nat := match q.1 with
  | 0 => q.2.1
  | 1 => (q.2.2 - ival (ρ q.2.1)).toNat
  | _ => (ival (ρ q.2.1) - q.2.2).toNat
def mBd : Nat := 8589934592
def menc : Nat → List Nat → Nat
  | 0, _ => 0
  | _ + 1, [] => 0
  | n + 1, x :: r => (if x < mBd then x else mBd - 1) * mBd ^ n + menc n r
theorem menc_lt : ∀ (n : Nat) (l : List Nat), menc n l < mBd ^ n := by
  intro n
  induction n with
  | zero => intro l; simp [menc]
  | succ n ih =>
    intro l
    cases l with
    | nil => exact Nat.pow_pos (by decide)
    | cons x r =>
      have h := ih r
      unfold menc
      have hx : (if x < mBd then x else mBd - 1) + 1 ≤ mBd := by
        have : 0 < mBd := by decide
        split <;> omega
      have h2 := Nat.mul_le_mul_right (mBd ^ n) hx
      rw [Nat.add_mul, Nat.one_mul] at h2
      rw [Nat.pow_succ, Nat.mul_comm (mBd ^ n) mBd]
      omega
theorem menc_dec {n x x' : Nat} {r r' : List Nat} (h : x' < x) (h2 : x' < mBd - 1) : menc (n + 1) (x' :: r') < menc (n + 1) (x :: r) := by
  unfold menc
  have a := menc_lt n r'
  have hx : (if x' < mBd then x' else mBd - 1) + 1 ≤ (if x < mBd then x else mBd - 1) := by
    split <;> split <;> omega
  have h3 := Nat.mul_le_mul_right (mBd ^ n) hx
  rw [Nat.add_mul, Nat.one_mul] at h3
  omega
theorem menc_eq {n x : Nat} {r r' : List Nat} (h : menc n r' < menc n r) : menc (n + 1) (x :: r') < menc (n + 1) (x :: r) := by
  unfold menc
  omega
/-- the measure falls -/
def tmlt (s : tS) (m : List Nat) : Nat → tM → tM → Bool
  | n + 1, a :: r, b :: r' => match a.1, b.1 with
    | 0, 0 => (match Nat.blt b.2.1 a.2.1 && Nat.blt b.2.1 8589934591 with
      | true => true
      | false => a.2.1 == b.2.1 && tmlt s m n r r')
    | 1, 1 => a.2.2 == b.2.2 && (match mg m b.2.1 == a.2.1 with
      | true => tmlt s m n r r'
      | false => (match s.2.2.1[mg m b.2.1]? with
        | some t => tint t && (ile t.2.2 a.2.2 && (ile a.2.2 2147483648 && s.2.2.2.any (fun q => q.1 == 3 && (q.2.1 == mg m b.2.1 && (q.2.2.1 == a.2.1 && ile 1 q.2.2.2.2)))))
        | none => false))
    | 2, 2 => a.2.2 == b.2.2 && (match mg m b.2.1 == a.2.1 with
      | true => tmlt s m n r r'
      | false => (match s.2.2.1[mg m b.2.1]? with
        | some t => tint t && (ile a.2.2 t.2.1 && (ile (-2147483648) a.2.2 && s.2.2.2.any (fun q => q.1 == 3 && (q.2.1 == mg m b.2.1 && (q.2.2.1 == a.2.1 && ile q.2.2.2.2 (-1))))))
        | none => false))
    | _, _ => false
  | _, _, _ => false
theorem tmlt_ok {D : va_G} {G : tG} {w : jW} {ρ : Nat → Value} {s : tS} {m : List Nat} (h : tSat D G w ρ s) : ∀ (n : Nat) (a b : tM), tmlt s m n a b = true → menc n (b.map (mval (fun i => ρ (mg m i)))) < menc n (a.map (mval ρ)) := by
  intro n
  induction n with
  | zero => intro a b hc; cases hc
  | succ n ih =>
    intro a b hc
    cases a with
    | nil => cases hc
    | cons p r =>
      cases b with
      | nil => cases hc
      | cons q r' =>
        obtain ⟨ka, xa, ha⟩ := p
        obtain ⟨kb, xb, hb⟩ := q
        simp only [List.map_cons]
        match ka, kb, hc with
        | 0, 0, hc =>
          have hc : (match Nat.blt xb xa && Nat.blt xb 8589934591 with | true => true | false => xa == xb && tmlt s m n r r') = true := hc
          split at hc
          · rename_i e
            rw [Bool.and_eq_true] at e
            have e1 : xb < xa := by simpa [Nat.blt_eq] using e.1
            have e2 : xb < 8589934591 := by simpa [Nat.blt_eq] using e.2
            exact menc_dec e1 e2
          · rw [Bool.and_eq_true] at hc
            have e1 : xa = xb := by simpa using hc.1
            subst e1
            exact menc_eq (ih r r' hc.2)
        | 1, 1, hc =>
          have hc : (ha == hb && (match mg m xb == xa with
            | true => tmlt s m n r r'
            | false => (match s.2.2.1[mg m xb]? with
              | some t => tint t && (ile t.2.2 ha && (ile ha 2147483648 && s.2.2.2.any (fun q => q.1 == 3 && (q.2.1 == mg m xb && (q.2.2.1 == xa && ile 1 q.2.2.2.2)))))
              | none => false))) = true := hc
          rw [Bool.and_eq_true] at hc
          obtain ⟨e0, hq⟩ := hc
          have e0 : ha = hb := by simpa using e0
          subst e0
          split at hq
          · rename_i e
            have e1 : mg m xb = xa := by simpa using e
            have e2 : mval (fun i => ρ (mg m i)) (1, xb, ha) = mval ρ (1, xa, ha) := by
              show (ha - ival (ρ (mg m xb))).toNat = (ha - ival (ρ xa)).toNat
              rw [e1]
            rw [e2]
            exact menc_eq (ih r r' hq)
          · split at hq
            · rename_i t ht
              rw [Bool.and_eq_true, Bool.and_eq_true, Bool.and_eq_true, List.any_eq_true] at hq
              obtain ⟨c1, c2, c3, f, f1, f2⟩ := hq
              obtain ⟨kf, fa, fb, fc, fd⟩ := f
              rw [Bool.and_eq_true, Bool.and_eq_true, Bool.and_eq_true] at f2
              obtain ⟨g1, g2, g3, g4⟩ := f2
              have i1 : kf = 3 := by simpa using g1
              have i2 : fa = mg m xb := by simpa using g2
              have i3 : fb = xa := by simpa using g3
              have i4 := ile_ok g4
              clear g1 g2 g3 g4
              subst i1
              obtain ⟨x, y, k1, k2, k3⟩ := h.2.2.2.2 _ f1
              have k1 : ρ fa = .int x := k1
              have k2 : ρ fb = .int y := k2
              have k3 : x.toInt = y.toInt + fd := k3
              obtain ⟨z, hz, z1, z2⟩ := vok_int c1 (h.2.2.2.1 _ _ ht)
              rw [i2] at k1
              rw [k1] at hz
              have ez : z = x := by cases hz; rfl
              have d1 := ile_ok c2
              have d2 := ile_ok c3
              have v1 : mval (fun i => ρ (mg m i)) (1, xb, ha) = (ha - x.toInt).toNat := by
                show (ha - ival (ρ (mg m xb))).toNat = _
                rw [k1]; rfl
              have v2 : mval ρ (1, xa, ha) = (ha - y.toInt).toNat := by
                show (ha - ival (ρ xa)).toNat = _
                rw [← i3, k2]; rfl
              rw [v1, v2]
              have l1 := jlo x
              have l2 := jlo y
              rw [ez] at z2
              dsimp only at i4
              refine menc_dec (by omega) ?_
              show _ < 8589934592 - 1
              omega
            · cases hq
        | 2, 2, hc =>
          have hc : (ha == hb && (match mg m xb == xa with
            | true => tmlt s m n r r'
            | false => (match s.2.2.1[mg m xb]? with
              | some t => tint t && (ile ha t.2.1 && (ile (-2147483648) ha && s.2.2.2.any (fun q => q.1 == 3 && (q.2.1 == mg m xb && (q.2.2.1 == xa && ile q.2.2.2.2 (-1))))))
              | none => false))) = true := hc
          rw [Bool.and_eq_true] at hc
          obtain ⟨e0, hq⟩ := hc
          have e0 : ha = hb := by simpa using e0
          subst e0
          split at hq
          · rename_i e
            have e1 : mg m xb = xa := by simpa using e
            have e2 : mval (fun i => ρ (mg m i)) (2, xb, ha) = mval ρ (2, xa, ha) := by
              show (ival (ρ (mg m xb)) - ha).toNat = (ival (ρ xa) - ha).toNat
              rw [e1]
            rw [e2]
            exact menc_eq (ih r r' hq)
          · split at hq
            · rename_i t ht
              rw [Bool.and_eq_true, Bool.and_eq_true, Bool.and_eq_true, List.any_eq_true] at hq
              obtain ⟨c1, c2, c3, f, f1, f2⟩ := hq
              obtain ⟨kf, fa, fb, fc, fd⟩ := f
              rw [Bool.and_eq_true, Bool.and_eq_true, Bool.and_eq_true] at f2
              obtain ⟨g1, g2, g3, g4⟩ := f2
              have i1 : kf = 3 := by simpa using g1
              have i2 : fa = mg m xb := by simpa using g2
              have i3 : fb = xa := by simpa using g3
              have i4 := ile_ok g4
              clear g1 g2 g3 g4
              subst i1
              obtain ⟨x, y, k1, k2, k3⟩ := h.2.2.2.2 _ f1
              have k1 : ρ fa = .int x := k1
              have k2 : ρ fb = .int y := k2
              have k3 : x.toInt = y.toInt + fd := k3
              obtain ⟨z, hz, z1, z2⟩ := vok_int c1 (h.2.2.2.1 _ _ ht)
              rw [i2] at k1
              rw [k1] at hz
              have ez : z = x := by cases hz; rfl
              have d1 := ile_ok c2
              have d2 := ile_ok c3
              have v1 : mval (fun i => ρ (mg m i)) (2, xb, ha) = (x.toInt - ha).toNat := by
                show (ival (ρ (mg m xb)) - ha).toNat = _
                rw [k1]; rfl
              have v2 : mval ρ (2, xa, ha) = (y.toInt - ha).toNat := by
                show (ival (ρ xa) - ha).toNat = _
                rw [← i3, k2]; rfl
              rw [v1, v2]
              have l1 := jhi x
              have l2 := jhi y
              rw [ez] at z1
              dsimp only at i4
              refine menc_dec (by omega) ?_
              show _ < 8589934592 - 1
              omega
            · cases hq
        | 0, k + 1, hc => cases hc
        | 1, 0, hc => cases hc
        | 1, k + 2, hc => cases hc
        | 2, 0, hc => cases hc
        | 2, 1, hc => cases hc
        | 2, k + 3, hc => cases hc
        | k + 3, kb, hc => cases hc
/-- a call -/
def tcall (vir : Bool) (ci fr lo pc : Nat) (pu : Bool) (K : List (Nat × Nat)) (I : tI) (s : tS) : Option (List (Nat × tS)) :=
  let n := (IE I).2.1.length
  let s1 : tS := (s.1, s.2.1.take n, s.2.2.1, s.2.2.2)
  let m := tfindm (IE I) s1 []
  match (tchk (IE I) s1 m && (Nat.ble (Ifr I + 1) fr && (Nat.ble (8 + (IL I + 11) + Ilo I) lo && Nat.ble (tsum s (s.2.1.drop n)) 8))) && ((((!pu) || Ipu I) && K.all (fun q => kel (IK I) q.1 q.2)) && ((IE I).1.isEmpty && ((IE I).2.1.reverse == List.range n && (match vir with | true => Nat.blt 0 n && (match tobj s (mg m 0) with | some o => o.2.1 == ci | none => false) | false => true)))) with
  | true => some ((IQ I).map (fun Q => (pc + 3, tbeh I s m Q)))
  | false => none
section TC
variable {g : jG} {P : tG → jW → Prop} {cc : ByteArray} {nL pc : Nat} {own : String} {D : va_G} {G : tG} {w : jW} {ρ : Nat → Value} {s : tS} {outs : List (Nat × tS)} {lk : tLK} {k0 n0 : Nat} {rm : Room} {l : Launch} {B : Nat} {H0 : Heap} {y0 : MethodName}
/-- what a call says, put to use -/
theorem tcall_use {vir : Bool} {ci fr lo : Nat} {pu9 : Bool} {K : List (Nat × Nat)} {I : tI} (h : tSat D G w ρ s) (ho : tcall vir ci fr lo pc pu9 K I s = some outs) : ∃ m : List Nat, tSat D G w (fun i => ρ (mg m i)) (IE I) ∧ (∀ j, j < (IE I).2.1.length → mg m j < s.2.2.1.length) ∧ Ifr I + 1 ≤ fr ∧ 8 + (IL I + 11) + Ilo I ≤ lo ∧ (((s.2.1.drop (IE I).2.1.length).map ρ).map fun v => v.category).sum ≤ 8 ∧ ((pu9 = true → Ipu I = true) ∧ ∀ q ∈ K, kel (IK I) q.1 q.2 = true) ∧ cS ρ s = (Iav I (fun i => ρ (mg m i))).reverse ++ (s.2.1.drop (IE I).2.1.length).map ρ ∧ (vir = true → 0 < (IE I).2.1.length ∧ ∃ o, tobj s (mg m 0) = some o ∧ o.2.1 = ci) ∧ (IE I).2.1.reverse = List.range (IE I).2.1.length ∧ outs = (IQ I).map (fun Q => (pc + 3, tbeh I s m Q)) := by
  unfold tcall at ho
  dsimp only at ho
  split at ho
  · rename_i hb
    cases ho
    obtain ⟨n, hn⟩ : ∃ n, n = (IE I).2.1.length := ⟨_, rfl⟩
    obtain ⟨m, hm⟩ : ∃ m, m = tfindm (IE I) (s.1, s.2.1.take (IE I).2.1.length, s.2.2.1, s.2.2.2) [] := ⟨_, rfl⟩
    rw [← hm] at hb ⊢
    rw [Bool.and_eq_true, Bool.and_eq_true, Bool.and_eq_true, Bool.and_eq_true, Bool.and_eq_true, Bool.and_eq_true, Bool.and_eq_true, Bool.and_eq_true] at hb
    obtain ⟨⟨b1, b2, b3, b4⟩, ⟨b5, b5k⟩, b6, b7, b8⟩ := hb
    have h1 := h.re s.1 (s.2.1.take (IE I).2.1.length) h.1 (fun j hj => h.2.1 j (List.mem_of_mem_take hj))
    obtain ⟨c1, c2, -⟩ := tchk_ok h1 b1
    have e7 : (IE I).2.1.reverse = List.range (IE I).2.1.length := by simpa using b7
    have hlt : ∀ j, j < (IE I).2.1.length → mg m j < s.2.2.1.length := by
      intro j hj
      have hw := c1.2.1
      have hj2 : j ∈ (IE I).2.1 := by
        rw [← List.mem_reverse, e7]
        exact List.mem_range.mpr hj
      have hjl := hw j hj2
      unfold tchk at b1
      rw [Bool.and_eq_true, Bool.and_eq_true] at b1
      have b9 := List.all_eq_true.mp b1.2.1 j (List.mem_range.mpr hjl)
      unfold tvs at b9
      split at b9
      · rename_i u t e1 e2
        exact (List.getElem?_eq_some_iff.mp e2).1
      · cases b9
    have hdrop : ∀ j ∈ s.2.1.drop (IE I).2.1.length, j < s.2.2.1.length := fun j hj => h.2.1 j (List.mem_of_mem_drop hj)
    refine ⟨m, c1, hlt, Nat.le_of_ble_eq_true b2, Nat.le_of_ble_eq_true b3, ?_, ?_, ?_, ?_, e7, rfl⟩
    · rw [tsum_ok h _ hdrop]
      exact Nat.le_of_ble_eq_true b4
    · refine ⟨fun q => ?_, fun q hq => List.all_eq_true.mp b5k q hq⟩
      rw [q] at b5
      simpa using b5
    · have e : cS ρ s = (s.2.1.take (IE I).2.1.length).map ρ ++ (s.2.1.drop (IE I).2.1.length).map ρ := by
        rw [← List.map_append, List.take_append_drop]
      rw [e]
      congr 1
      have c3 : (IE I).2.1.map (fun i => ρ (mg m i)) = (s.2.1.take (IE I).2.1.length).map ρ := c2
      rw [← c3]
      show _ = (((IE I).2.1.reverse).map _).reverse
      rw [← List.map_reverse, List.reverse_reverse]
    · intro q
      rw [q] at b8
      have b8 : (Nat.blt 0 (IE I).2.1.length && (match tobj s (mg m 0) with | some o => o.2.1 == ci | none => false)) = true := b8
      rw [Bool.and_eq_true] at b8
      refine ⟨by simpa [Nat.blt_eq] using b8.1, ?_⟩
      have b9 := b8.2
      split at b9
      · rename_i o ho
        exact ⟨o, ho, by simpa using b9⟩
      · cases b9
  · cases ho
/-- behind the call -/
theorem tcall_beh {w9 : jW} {I : tI} {m : List Nat} (hw : WOK D G w) (h : tSat D G w ρ s) (hlt : ∀ j, j < (IE I).2.1.length → mg m j < s.2.2.1.length) {v : Option Value} (hE : tEnd D I G w (fun i => ρ (mg m i)) v w9) (hPn : ∀ G9, WOK D G9 w9 → bud G9 w9 → TRr G w G9 w9 → TRk (IK I) G w w9 → (Ipu I = true → G9 = G ∧ w9 = w) → P G9 w9) (hk : ∀ o ∈ (IQ I).map (fun Q => (pc + 3, tbeh I s m Q)), tOut g P D s.2.2.1.length ρ o) : JJ g w9 (pc + 3) (cL ρ s) (v.toList ++ (s.2.1.drop (IE I).2.1.length).map ρ) := by
  obtain ⟨G9, e1, e2, e3, eK, e4, Q, hQ, ρ9, e5, e6, e7⟩ := hE
  obtain ⟨ρ', f1, f2, f3, f4⟩ := tbeh_ok (m := m) hw e1 e3 eK e4 h e6 (fun j hj => ⟨hlt j hj, e5 j hj⟩)
  have := hk _ (List.mem_map.mpr ⟨Q, hQ, rfl⟩) G9 w9 ρ' (hPn G9 e1 e2 e3 eK e4) f1 f2
  dsimp only at this
  rw [f3, f4, ← e7] at this
  exact this
theorem tcallV_ok (C : jX g cc nL own D) (Rm : jRm g k0 n0 rm) (Y : jY g l B H0 y0) {ci idx : Nat} {pu9 : Bool} {K : List (Nat × Nat)} {I : tI} (hI : tCon l D B H0 I) {r : vw_C} (hc : jcV own idx (Iy I) (Icc I) (IL I) (Ir I) ((IE I).2.1.length - 1)) (hci : vwCl[ci]? = some r) (hrc : r.1 = (Iy I).cls) (hd : decode cc pc = .ok (.invokevirtual idx, 3)) (hw : WOK D G w) (hb : bud G w) (hroom : rm.cells = KC - k0 ∧ rm.slots = KS - n0 ∧ k0 ≤ KC ∧ n0 ≤ KS) (h : tSat D G w ρ s) (hPn : ∀ G9 w9, WOK D G9 w9 → bud G9 w9 → TRr G w G9 w9 → (∀ K9, TRk K9 G w w9 → (∀ q ∈ K, kel K9 q.1 q.2 = true) → (pu9 = true → G9 = G ∧ w9 = w) → P G9 w9)) (ho : tcall true ci rm.frames rm.locals pc pu9 K I s = some outs) (hk : ∀ o ∈ outs, tOut g P D s.2.2.1.length ρ o) : JJ g w pc (cL ρ s) (cS ρ s) := by
  obtain ⟨m, c1, c2, c3, c4, c5, c6, c7, c8, c9, rfl⟩ := tcall_use h ho
  obtain ⟨hpos, o, ho1, ho2⟩ := c8 rfl
  obtain ⟨τ, c, fs⟩ := o
  have ho2 : c = ci := ho2
  obtain ⟨hty, a, V, ha, hg, hV, -⟩ := tobj_ok hw h ho1
  rw [ho2] at hV
  have hle := hb.le
  have hav : ∃ As, Iav I (fun i => ρ (mg m i)) = .ref a :: As ∧ As.length = (IE I).2.1.length - 1 := by
    show ∃ As, ((IE I).2.1.reverse).map (fun i => ρ (mg m i)) = .ref a :: As ∧ _
    rw [c9]
    obtain ⟨n, hn⟩ : ∃ n, (IE I).2.1.length = n + 1 := ⟨(IE I).2.1.length - 1, by omega⟩
    rw [hn, List.range_succ_eq_map]
    refine ⟨(((List.range n).map Nat.succ).map (fun i => ρ (mg m i))), ?_, by simp⟩
    simp only [List.map_cons]
    rw [ha]
  obtain ⟨As, hA1, hA2⟩ := hav
  have hM := hI G w (fun i => ρ (mg m i)) hw hb c1
  rw [hA1] at hM c7
  refine j_callV C Rm Y As ((s.2.1.drop (IE I).2.1.length).map ρ) hM hc hci hrc hV hd hA2 ?_ c5 ⟨c3, c4⟩ ⟨by omega, by omega⟩ (fun v w9 hE => ?_)
  · rw [c7]
    simp
  · exact tcall_beh hw h c2 hE (fun G9 q1 q2 q3 qK q4 => hPn G9 w9 q1 q2 q3 (IK I) qK c6.2 (fun q => q4 (c6.1 q))) hk
theorem tcallS_ok (C : jX g cc nL own D) (Rm : jRm g k0 n0 rm) (Y : jY g l B H0 y0) {ci idx : Nat} {pu9 nest : Bool} {K : List (Nat × Nat)} {I : tI} (hI : tCon l D B H0 I) (hc : match nest with | true => jcSn own idx (Iy I) (Icc I) (IL I) (Ir I) (IE I).2.1.length | false => jcS own idx (Iy I) (Icc I) (IL I) (Ir I) (IE I).2.1.length) (hd : decode cc pc = .ok (.invokestatic idx, 3)) (hw : WOK D G w) (hb : bud G w) (hroom : rm.cells = KC - k0 ∧ rm.slots = KS - n0 ∧ k0 ≤ KC ∧ n0 ≤ KS) (h : tSat D G w ρ s) (hPn : ∀ G9 w9, WOK D G9 w9 → bud G9 w9 → TRr G w G9 w9 → (∀ K9, TRk K9 G w w9 → (∀ q ∈ K, kel K9 q.1 q.2 = true) → (pu9 = true → G9 = G ∧ w9 = w) → P G9 w9)) (ho : tcall false ci rm.frames rm.locals pc pu9 K I s = some outs) (hk : ∀ o ∈ outs, tOut g P D s.2.2.1.length ρ o) : JJ g w pc (cL ρ s) (cS ρ s) := by
  obtain ⟨m, c1, c2, c3, c4, c5, c6, c7, -, c9, rfl⟩ := tcall_use h ho
  have hle := hb.le
  have hM := hI G w (fun i => ρ (mg m i)) hw hb c1
  have hlen : (Iav I (fun i => ρ (mg m i))).length = (IE I).2.1.length := by simp [Iav]
  have kk : ∀ (v : Option Value) (w9 : jW), tEnd D I G w (fun i => ρ (mg m i)) v w9 → JJ g w9 (pc + 3) (cL ρ s) (v.toList ++ (s.2.1.drop (IE I).2.1.length).map ρ) := fun v w9 hE => tcall_beh hw h c2 hE (fun G9 q1 q2 q3 qK q4 => hPn G9 w9 q1 q2 q3 (IK I) qK c6.2 (fun q => q4 (c6.1 q))) hk
  cases nest with
  | true => exact j_callSn C Rm Y ((s.2.1.drop (IE I).2.1.length).map ρ) hM hc hd hlen c7 c5 ⟨c3, c4⟩ ⟨by omega, by omega⟩ kk
  | false => exact j_callS C Rm Y ((s.2.1.drop (IE I).2.1.length).map ρ) hM hc hd hlen c7 c5 ⟨c3, c4⟩ ⟨by omega, by omega⟩ kk
end TC
