/-! THE T LAYER: the run of a method (own work) -/
abbrev tE : Type := Nat × Instr × Nat × Value
abbrev tM : Type := List (Nat × Nat × Int)
/-- a method's run: its instructions, its class's links, its calls (index, kind, which, class), its heads -/
abbrev tMD : Type := List tE × tLK × List (Nat × Nat × Nat × Nat) × List (Nat × tS × tM)
def ival (v : Value) : Int := match v with
  | .int x => x.toInt
  | _ => 0
def mval (ρ : Nat → Value) (q : Nat × Nat × Int) : Nat := match q.1 with
  | 0 => q.2.1
  | 1 => (q.2.2 - ival (ρ q.2.1)).toNat
  | _ => (ival (ρ q.2.1) - q.2.2).toNat
def mBd : Nat := 8589934592
def menc : Nat → List Nat → Nat
  | 0, _ => 0
  | _ + 1, [] => 0
  | n + 1, x :: r => (if x < mBd then x else mBd - 1) * mBd ^ n + menc n r
theorem menc_lt : ∀ (n : Nat) (l : List Nat), menc n l < mBd ^ n := by
  intro n
  induction n with
  | zero => intro l; simp [menc]
  | succ n ih =>
    intro l
    cases l with
    | nil => exact Nat.pow_pos (by decide)
    | cons x r =>
      have h := ih r
      unfold menc
      have hx : (if x < mBd then x else mBd - 1) + 1 ≤ mBd := by
        have : 0 < mBd := by decide
        split <;> omega
      have h2 := Nat.mul_le_mul_right (mBd ^ n) hx
      rw [Nat.add_mul, Nat.one_mul] at h2
      rw [Nat.pow_succ, Nat.mul_comm (mBd ^ n) mBd]
      omega
theorem menc_dec {n x x' : Nat} {r r' : List Nat} (h : x' < x) (h2 : x' < mBd - 1) : menc (n + 1) (x' :: r') < menc (n + 1) (x :: r) := by
  unfold menc
  have a := menc_lt n r'
  have hx : (if x' < mBd then x' else mBd - 1) + 1 ≤ (if x < mBd then x else mBd - 1) := by
    split <;> split <;> omega
  have h3 := Nat.mul_le_mul_right (mBd ^ n) hx
  rw [Nat.add_mul, Nat.one_mul] at h3
  omega
theorem menc_eq {n x : Nat} {r r' : List Nat} (h : menc n r' < menc n r) : menc (n + 1) (x :: r') < menc (n + 1) (x :: r) := by
  unfold menc
  omega
/-- the measure falls -/
def tmlt (s : tS) (m : List Nat) : Nat → tM → tM → Bool
  | n + 1, a :: r, b :: r' => match a.1, b.1 with
    | 0, 0 => (match Nat.blt b.2.1 a.2.1 && Nat.blt b.2.1 8589934591 with
      | true => true
      | false => a.2.1 == b.2.1 && tmlt s m n r r')
    | 1, 1 => a.2.2 == b.2.2 && (match mg m b.2.1 == a.2.1 with
      | true => tmlt s m n r r'
      | false => (match s.2.2.1[mg m b.2.1]? with
        | some t => tint t && (ile t.2.2 a.2.2 && (ile a.2.2 2147483648 && s.2.2.2.any (fun q => q.1 == 3 && (q.2.1 == mg m b.2.1 && (q.2.2.1 == a.2.1 && ile 1 q.2.2.2.2)))))
        | none => false))
    | 2, 2 => a.2.2 == b.2.2 && (match mg m b.2.1 == a.2.1 with
      | true => tmlt s m n r r'
      | false => (match s.2.2.1[mg m b.2.1]? with
        | some t => tint t && (ile a.2.2 t.2.1 && (ile (-2147483648) a.2.2 && s.2.2.2.any (fun q => q.1 == 3 && (q.2.1 == mg m b.2.1 && (q.2.2.1 == a.2.1 && ile q.2.2.2.2 (-1))))))
        | none => false))
    | _, _ => false
  | _, _, _ => false
theorem tmlt_ok {D : va_G} {G : tG} {w : jW} {ρ : Nat → Value} {s : tS} {m : List Nat} (h : tSat D G w ρ s) : ∀ (n : Nat) (a b : tM), tmlt s m n a b = true → menc n (b.map (mval (fun i => ρ (mg m i)))) < menc n (a.map (mval ρ)) := by
  intro n
  induction n with
  | zero => intro a b hc; cases hc
  | succ n ih =>
    intro a b hc
    cases a with
    | nil => cases hc
    | cons p r =>
      cases b with
      | nil => cases hc
      | cons q r' =>
        obtain ⟨ka, xa, ha⟩ := p
        obtain ⟨kb, xb, hb⟩ := q
        simp only [List.map_cons]
        match ka, kb, hc with
        | 0, 0, hc =>
          have hc : (match Nat.blt xb xa && Nat.blt xb 8589934591 with | true => true | false => xa == xb && tmlt s m n r r') = true := hc
          split at hc
          · rename_i e
            rw [Bool.and_eq_true] at e
            have e1 : xb < xa := by simpa [Nat.blt_eq] using e.1
            have e2 : xb < 8589934591 := by simpa [Nat.blt_eq] using e.2
            exact menc_dec e1 e2
          · rw [Bool.and_eq_true] at hc
            have e1 : xa = xb := by simpa using hc.1
            subst e1
            exact menc_eq (ih r r' hc.2)
        | 1, 1, hc =>
          have hc : (ha == hb && (match mg m xb == xa with
            | true => tmlt s m n r r'
            | false => (match s.2.2.1[mg m xb]? with
              | some t => tint t && (ile t.2.2 ha && (ile ha 2147483648 && s.2.2.2.any (fun q => q.1 == 3 && (q.2.1 == mg m xb && (q.2.2.1 == xa && ile 1 q.2.2.2.2)))))
              | none => false))) = true := hc
          rw [Bool.and_eq_true] at hc
          obtain ⟨e0, hq⟩ := hc
          have e0 : ha = hb := by simpa using e0
          subst e0
          split at hq
          · rename_i e
            have e1 : mg m xb = xa := by simpa using e
            have e2 : mval (fun i => ρ (mg m i)) (1, xb, ha) = mval ρ (1, xa, ha) := by
              show (ha - ival (ρ (mg m xb))).toNat = (ha - ival (ρ xa)).toNat
              rw [e1]
            rw [e2]
            exact menc_eq (ih r r' hq)
          · split at hq
            · rename_i t ht
              rw [Bool.and_eq_true, Bool.and_eq_true, Bool.and_eq_true, List.any_eq_true] at hq
              obtain ⟨c1, c2, c3, f, f1, f2⟩ := hq
              obtain ⟨kf, fa, fb, fc, fd⟩ := f
              rw [Bool.and_eq_true, Bool.and_eq_true, Bool.and_eq_true] at f2
              obtain ⟨g1, g2, g3, g4⟩ := f2
              have g1 : kf = 3 := by simpa using g1
              have g2 : fa = mg m xb := by simpa using g2
              have g3 : fb = xa := by simpa using g3
              have g4 := ile_ok g4
              subst g1
              obtain ⟨x, y, k1, k2, k3⟩ := h.2.2.2.2 _ f1
              have k1 : ρ fa = .int x := k1
              have k2 : ρ fb = .int y := k2
              have k3 : x.toInt = y.toInt + fd := k3
              obtain ⟨z, hz, z1, z2⟩ := vok_int c1 (h.2.2.2.1 _ _ ht)
              rw [g2] at k1
              rw [k1] at hz
              have ez : z = x := by cases hz; rfl
              have d1 := ile_ok c2
              have d2 := ile_ok c3
              have v1 : mval (fun i => ρ (mg m i)) (1, xb, ha) = (ha - x.toInt).toNat := by
                show (ha - ival (ρ (mg m xb))).toNat = _
                rw [k1]; rfl
              have v2 : mval ρ (1, xa, ha) = (ha - y.toInt).toNat := by
                show (ha - ival (ρ xa)).toNat = _
                rw [← g3, k2]; rfl
              rw [v1, v2]
              have l1 := jlo x
              have l2 := jlo y
              rw [ez] at z2
              dsimp only at g4
              refine menc_dec (by omega) ?_
              show _ < 8589934592 - 1
              omega
            · cases hq
        | 2, 2, hc =>
          have hc : (ha == hb && (match mg m xb == xa with
            | true => tmlt s m n r r'
            | false => (match s.2.2.1[mg m xb]? with
              | some t => tint t && (ile ha t.2.1 && (ile (-2147483648) ha && s.2.2.2.any (fun q => q.1 == 3 && (q.2.1 == mg m xb && (q.2.2.1 == xa && ile q.2.2.2.2 (-1))))))
              | none => false))) = true := hc
          rw [Bool.and_eq_true] at hc
          obtain ⟨e0, hq⟩ := hc
          have e0 : ha = hb := by simpa using e0
          subst e0
          split at hq
          · rename_i e
            have e1 : mg m xb = xa := by simpa using e
            have e2 : mval (fun i => ρ (mg m i)) (2, xb, ha) = mval ρ (2, xa, ha) := by
              show (ival (ρ (mg m xb)) - ha).toNat = (ival (ρ xa) - ha).toNat
              rw [e1]
            rw [e2]
            exact menc_eq (ih r r' hq)
          · split at hq
            · rename_i t ht
              rw [Bool.and_eq_true, Bool.and_eq_true, Bool.and_eq_true, List.any_eq_true] at hq
              obtain ⟨c1, c2, c3, f, f1, f2⟩ := hq
              obtain ⟨kf, fa, fb, fc, fd⟩ := f
              rw [Bool.and_eq_true, Bool.and_eq_true, Bool.and_eq_true] at f2
              obtain ⟨g1, g2, g3, g4⟩ := f2
              have g1 : kf = 3 := by simpa using g1
              have g2 : fa = mg m xb := by simpa using g2
              have g3 : fb = xa := by simpa using g3
              have g4 := ile_ok g4
              subst g1
              obtain ⟨x, y, k1, k2, k3⟩ := h.2.2.2.2 _ f1
              have k1 : ρ fa = .int x := k1
              have k2 : ρ fb = .int y := k2
              have k3 : x.toInt = y.toInt + fd := k3
              obtain ⟨z, hz, z1, z2⟩ := vok_int c1 (h.2.2.2.1 _ _ ht)
              rw [g2] at k1
              rw [k1] at hz
              have ez : z = x := by cases hz; rfl
              have d1 := ile_ok c2
              have d2 := ile_ok c3
              have v1 : mval (fun i => ρ (mg m i)) (2, xb, ha) = (x.toInt - ha).toNat := by
                show (ival (ρ (mg m xb)) - ha).toNat = _
                rw [k1]; rfl
              have v2 : mval ρ (2, xa, ha) = (y.toInt - ha).toNat := by
                show (ival (ρ xa) - ha).toNat = _
                rw [← g3, k2]; rfl
              rw [v1, v2]
              have l1 := jhi x
              have l2 := jhi y
              rw [ez] at z1
              dsimp only at g4
              refine menc_dec (by omega) ?_
              show _ < 8589934592 - 1
              omega
            · cases hq
        | 0, k + 1, hc => cases hc
        | 1, 0, hc => cases hc
        | 1, k + 2, hc => cases hc
        | 2, 0, hc => cases hc
        | 2, 1, hc => cases hc
        | 2, k + 3, hc => cases hc
        | k + 3, kb, hc => cases hc
/-- a call -/
def tcall (vir : Bool) (ci fr lo pc : Nat) (pu : Bool) (I : tI) (s : tS) : Option (List (Nat × tS)) :=
  let n := (IE I).2.1.length
  let s1 : tS := (s.1, s.2.1.take n, s.2.2.1, s.2.2.2)
  let m := tfindm (IE I) s1 []
  match (tchk (IE I) s1 m && (Nat.ble (Ifr I + 1) fr && (Nat.ble (8 + (IL I + 11) + Ilo I) lo && Nat.ble (tsum s (s.2.1.drop n)) 8))) && (((!pu) || Ipu I) && ((IE I).1.isEmpty && ((IE I).2.1.reverse == List.range n && (match vir with | true => Nat.blt 0 n && (match tobj s (mg m 0) with | some o => o.2.1 == ci | none => false) | false => true)))) with
  | true => some ((IQ I).map (fun Q => (pc + 3, tbeh I s m Q)))
  | false => none
