/-! THE M LAYER (own work): the reference's world by families of cells, its numbers as integers. First: values, plain instructions. -/
abbrev mV : Type := Int ⊕ (Int ⊕ Option (Nat × Nat))
abbrev vi (z : Int) : mV := .inl z
abbrev vl (z : Int) : mV := .inr (.inl z)
abbrev vr (f k : Nat) : mV := .inr (.inr (some (f, k)))
abbrev vn : mV := .inr (.inr none)
abbrev mAd : Type := Nat → Nat → Nat
def mc (ad : mAd) (v : mV) : Value := match v with
  | .inl z => .int (Int32.ofInt z)
  | .inr (.inl z) => .long (Int64.ofInt z)
  | .inr (.inr (some r)) => .ref (ad r.1 r.2)
  | .inr (.inr none) => .null
abbrev mL (ad : mAd) (L : List (Nat × mV)) : List (Nat × Value) := L.map (fun q => (q.1, mc ad q.2))
abbrev mSt (ad : mAd) (st : List mV) : List Value := st.map (mc ad)
def mcat2 (v : mV) : Bool := match v with
  | .inr (.inl _) => true
  | _ => false
theorem mcat2_ok (ad : mAd) (v : mV) : ((mc ad v).category == 2) = mcat2 v := by
  rcases v with z | z | _ | r <;> rfl
def mlk : List (Nat × mV) → Nat → Option mV
  | [], _ => none
  | q :: l, i => match Nat.beq q.1 i with
    | true => some q.2
    | false => mlk l i
theorem mlk_ok (ad : mAd) (L : List (Nat × mV)) (k : Nat) : jlk (mL ad L) k = (mlk L k).map (mc ad) := by
  induction L with
  | nil => rfl
  | cons q l ih =>
    show jlk ((q.1, mc ad q.2) :: mL ad l) k = _
    unfold jlk mlk
    show (match Nat.beq q.1 k with | true => some (mc ad q.2) | false => jlk (mL ad l) k) = _
    cases Nat.beq q.1 k with
    | true => rfl
    | false => exact ih
def mst (L : List (Nat × mV)) (i : Nat) (v : mV) : List (Nat × mV) := (i, v) :: L.filter (fun q => !(q.1 == i) && !(q.1 + 1 == i && mcat2 q.2))
def mst2 (L : List (Nat × mV)) (i : Nat) (v : mV) : List (Nat × mV) := (i, v) :: L.filter (fun q => !(q.1 == i) && (!(q.1 == i + 1) && !(q.1 + 1 == i && mcat2 q.2)))
theorem mst_ok (ad : mAd) (L : List (Nat × mV)) (k : Nat) (v : mV) : jst (mL ad L) k (mc ad v) = mL ad (mst L k v) := by
  unfold jst mst mL
  rw [List.map_cons, List.filter_map]
  congr 2
  apply List.filter_congr
  intro q _
  show (!(q.1 == k) && !(q.1 + 1 == k && (mc ad q.2).category == 2)) = _
  rw [mcat2_ok]
theorem mst2_ok (ad : mAd) (L : List (Nat × mV)) (k : Nat) (v : mV) : jst2 (mL ad L) k (mc ad v) = mL ad (mst2 L k v) := by
  unfold jst2 mst2 mL
  rw [List.map_cons, List.filter_map]
  congr 2
  apply List.filter_congr
  intro q _
  show (!(q.1 == k) && (!(q.1 == k + 1) && !(q.1 + 1 == k && (mc ad q.2).category == 2))) = _
  rw [mcat2_ok]
abbrev mR : Type := Nat × List (Nat × mV) × List mV
/-- kinds of values: 0 int, 1 long, 2 reference -/
def mkd (v : mV) : Nat := match v with
  | .inl _ => 0
  | .inr (.inl _) => 1
  | .inr (.inr _) => 2
def mld (c : Nat) (L : List (Nat × mV)) (pc k : Nat) (st : List mV) : Option mR := match mlk L k with
  | some v => (match Nat.beq (mkd v) c with
    | true => some (pc, L, v :: st)
    | false => none)
  | none => none
def msto (c : Nat) (nL k pc : Nat) (L : List (Nat × mV)) (st : List mV) : Option mR := match Nat.blt k nL with
  | true => (match st with
    | v :: r => (match Nat.beq (mkd v) c with
      | true => some (pc, mst L k v, r)
      | false => none)
    | [] => none)
  | false => none
def mlst (nL k pc : Nat) (L : List (Nat × mV)) (st : List mV) : Option mR := match Nat.blt (k + 1) nL with
  | true => (match st with
    | .inr (.inl z) :: r => some (pc, mst2 L k (vl z), r)
    | _ => none)
  | false => none
def mb32 (f : Int → Int → Int) (pc : Nat) (L : List (Nat × mV)) (st : List mV) : Option mR := match st with
  | .inl y :: .inl x :: r => some (pc, L, .inl (f x y) :: r)
  | _ => none
def mb64 (f : Int → Int → Int) (pc : Nat) (L : List (Nat × mV)) (st : List mV) : Option mR := match st with
  | .inr (.inl y) :: .inr (.inl x) :: r => some (pc, L, .inr (.inl (f x y)) :: r)
  | _ => none
def iOr (x y : Int) : Int := (Int32.ofInt x ||| Int32.ofInt y).toInt
def iXor (x y : Int) : Int := (Int32.ofInt x ^^^ Int32.ofInt y).toInt
def iAnd (x y : Int) : Int := (Int32.ofInt x &&& Int32.ofInt y).toInt
def iShl (x y : Int) : Int := (Int32.ofInt x <<< (Int32.ofInt y &&& 31)).toInt
def iShr (x y : Int) : Int := (Int32.ofInt x >>> (Int32.ofInt y &&& 31)).toInt
def iUsh (x y : Int) : Int := ((Int32.ofInt x).toUInt32 >>> ((Int32.ofInt y).toUInt32 &&& Int32.toUInt32 31)).toInt32.toInt
def lShr (x y : Int) : Int := (Int64.ofInt x >>> ((Int32.ofInt y).toInt64 &&& 63)).toInt
def iByt (x : Int) : Int := ((Int32.ofInt x).toInt8.toInt32).toInt
/-- a constant, as a block's entry has it -/
def mcst (pc : Nat) (i : Instr) (v : mV) : Bool := match i with
  | .iconst n => (match v with
    | .inl z => decide (Int32.ofInt n = Int32.ofInt z)
    | _ => false)
  | .bipush n => (match v with
    | .inl z => decide ((Int8.ofInt n).toInt32 = Int32.ofInt z)
    | _ => false)
  | .sipush n => (match v with
    | .inl z => decide ((Int16.ofInt n).toInt32 = Int32.ofInt z)
    | _ => false)
  | .lconst n => (match v with
    | .inr (.inl z) => decide (Int64.ofNat (n : Nat) = Int64.ofInt z)
    | _ => false)
  | .iinc _ n => (match v with
    | .inl z => decide (Int32.ofInt n = Int32.ofInt z)
    | _ => false)
  | .goto off => (match v with
    | .inl t => decide ((pc : Int) + off = t) && decide (0 ≤ t)
    | _ => false)
  | _ => true
def mx (nL pc : Nat) (i : Instr) (v : mV) (L : List (Nat × mV)) (st : List mV) : Option mR := match i with
  | .iconst _ => some (pc + 1, L, v :: st)
  | .bipush _ => some (pc + 2, L, v :: st)
  | .sipush _ => some (pc + 3, L, v :: st)
  | .lconst _ => some (pc + 1, L, v :: st)
  | .iload k => mld 0 L (pc + 2) k st
  | .iload_n k => mld 0 L (pc + 1) k.1 st
  | .lload k => mld 1 L (pc + 2) k st
  | .lload_n k => mld 1 L (pc + 1) k.1 st
  | .aload k => mld 2 L (pc + 2) k st
  | .aload_n k => mld 2 L (pc + 1) k.1 st
  | .istore k => msto 0 nL k (pc + 2) L st
  | .istore_n k => msto 0 nL k.1 (pc + 1) L st
  | .lstore k => mlst nL k (pc + 2) L st
  | .lstore_n k => mlst nL k.1 (pc + 1) L st
  | .astore k => msto 2 nL k (pc + 2) L st
  | .astore_n k => msto 2 nL k.1 (pc + 1) L st
  | .iinc k _ => (match Nat.blt k nL with
    | true => (match mlk L k with
      | some (.inl x) => (match v with
        | .inl c => some (pc + 3, mst L k (vi (x + c)), st)
        | _ => none)
      | _ => none)
    | false => none)
  | .iadd => mb32 (fun x y => x + y) (pc + 1) L st
  | .isub => mb32 (fun x y => x - y) (pc + 1) L st
  | .imul => mb32 (fun x y => x * y) (pc + 1) L st
  | .iand => mb32 iAnd (pc + 1) L st
  | .ior => mb32 iOr (pc + 1) L st
  | .ixor => mb32 iXor (pc + 1) L st
  | .ishl => mb32 iShl (pc + 1) L st
  | .ishr => mb32 iShr (pc + 1) L st
  | .iushr => mb32 iUsh (pc + 1) L st
  | .ineg => (match st with
    | .inl x :: r => some (pc + 1, L, .inl (-x) :: r)
    | _ => none)
  | .ladd => mb64 (fun x y => x + y) (pc + 1) L st
  | .lsub => mb64 (fun x y => x - y) (pc + 1) L st
  | .lmul => mb64 (fun x y => x * y) (pc + 1) L st
  | .lshr => (match st with
    | .inl y :: .inr (.inl x) :: r => some (pc + 1, L, .inr (.inl (lShr x y)) :: r)
    | _ => none)
  | .l2i => (match st with
    | .inr (.inl x) :: r => some (pc + 1, L, .inl x :: r)
    | _ => none)
  | .i2b => (match st with
    | .inl x :: r => some (pc + 1, L, .inl (iByt x) :: r)
    | _ => none)
  | .dup => (match st with
    | v :: r => (match mcat2 v with
      | true => none
      | false => some (pc + 1, L, v :: v :: r))
    | [] => none)
  | .dup2 => (match st with
    | v :: u :: r => (match mcat2 v || mcat2 u with
      | true => none
      | false => some (pc + 1, L, v :: u :: v :: u :: r))
    | _ => none)
  | .pop => (match st with
    | v :: r => (match mcat2 v with
      | true => none
      | false => some (pc + 1, L, r))
    | [] => none)
  | .pop2 => (match st with
    | .inr (.inl _) :: r => some (pc + 1, L, r)
    | _ => none)
  | .goto _ => (match v with
    | .inl t => some (t.toNat, L, st)
    | _ => none)
  | _ => none
abbrev mE : Type := Nat × Instr × mV
def mxs (nL : Nat) : List mE → Nat → List (Nat × mV) → List mV → Option mR
  | [], pc, L, st => some (pc, L, st)
  | q :: r, pc, L, st => match Nat.beq q.1 pc with
    | true => (match mx nL q.1 q.2.1 q.2.2 L st with
      | some z => mxs nL r z.1 z.2.1 z.2.2
      | none => none)
    | false => none
section MX
variable {g : jG} {w : jW} {nL pc pc' : Nat} {L L' : List (Nat × mV)} {st st' : List mV} {ad : mAd}
theorem mkd0 {v : mV} (h : Nat.beq (mkd v) 0 = true) : ∃ z, v = vi z := by
  rcases v with z | z | r
  · exact ⟨z, rfl⟩
  · cases h
  · cases h
theorem mkd1 {v : mV} (h : Nat.beq (mkd v) 1 = true) : ∃ z, v = vl z := by
  rcases v with z | z | r
  · cases h
  · exact ⟨z, rfl⟩
  · cases h
theorem mkd2 {v : mV} (h : Nat.beq (mkd v) 2 = true) : v = vn ∨ ∃ f k, v = vr f k := by
  rcases v with z | z | _ | r
  · cases h
  · cases h
  · exact Or.inl rfl
  · exact Or.inr ⟨r.1, r.2, rfl⟩
theorem mld_ok {c a k : Nat} (h : mld c L a k st = some (pc', L', st')) : ∃ v, jlk (mL ad L) k = some (mc ad v) ∧ Nat.beq (mkd v) c = true ∧ pc' = a ∧ L' = L ∧ st' = v :: st := by
  unfold mld at h
  split at h
  · rename_i v hv
    split at h
    · rename_i hb
      cases h
      exact ⟨v, by rw [mlk_ok, hv]; rfl, hb, rfl, rfl, rfl⟩
    · cases h
  · cases h
theorem msto_ok {c a k : Nat} (h : msto c nL k a L st = some (pc', L', st')) : ∃ v, k < nL ∧ st = v :: st' ∧ Nat.beq (mkd v) c = true ∧ pc' = a ∧ L' = mst L k v := by
  unfold msto at h
  rcases hb : Nat.blt k nL with _ | _
  · rw [hb] at h; cases h
  · rw [hb] at h
    rcases st with _ | ⟨v, r⟩
    · cases h
    · rcases hv : Nat.beq (mkd v) c with _ | _
      · simp only [hv] at h; cases h
      · simp only [hv] at h
        cases h
        exact ⟨v, Nat.blt_eq.mp hb, rfl, hv, rfl, rfl⟩
theorem mlst_ok {a k : Nat} (h : mlst nL k a L st = some (pc', L', st')) : ∃ z, k + 1 < nL ∧ st = vl z :: st' ∧ pc' = a ∧ L' = mst2 L k (vl z) := by
  unfold mlst at h
  split at h
  · rename_i hb
    split at h
    · cases h
      exact ⟨_, Nat.blt_eq.mp hb, rfl, rfl, rfl⟩
    · cases h
  · cases h
theorem mb32_ok {f : Int → Int → Int} {a : Nat} (h : mb32 f a L st = some (pc', L', st')) : ∃ x y r, st = vi y :: vi x :: r ∧ pc' = a ∧ L' = L ∧ st' = vi (f x y) :: r := by
  unfold mb32 at h
  split at h
  · cases h; exact ⟨_, _, _, rfl, rfl, rfl, rfl⟩
  · cases h
theorem mb64_ok {f : Int → Int → Int} {a : Nat} (h : mb64 f a L st = some (pc', L', st')) : ∃ x y r, st = vl y :: vl x :: r ∧ pc' = a ∧ L' = L ∧ st' = vl (f x y) :: r := by
  unfold mb64 at h
  split at h
  · cases h; exact ⟨_, _, _, rfl, rfl, rfl, rfl⟩
  · cases h
theorem mld_use (C : jC g) {c a k pc0 : Nat} (h : mld c L a k st = some (pc', L', st')) (kk : JJ g w pc' (mL ad L') (mSt ad st')) (h0 : ∀ v, Nat.beq (mkd v) c = true → jlk (mL ad L) k = some (mc ad v) → JJ g w a (mL ad L) (mc ad v :: mSt ad st) → JJ g w pc0 (mL ad L) (mSt ad st)) : JJ g w pc0 (mL ad L) (mSt ad st) := by
  obtain ⟨v, h1, h2, rfl, rfl, rfl⟩ := mld_ok (ad := ad) h
  exact h0 v h2 h1 kk
theorem moi_or (x y : Int) : Int32.ofInt (iOr x y) = Int32.ofInt x ||| Int32.ofInt y := Int32.ofInt_toInt _
theorem moi_xor (x y : Int) : Int32.ofInt (iXor x y) = Int32.ofInt x ^^^ Int32.ofInt y := Int32.ofInt_toInt _
theorem moi_and (x y : Int) : Int32.ofInt (iAnd x y) = Int32.ofInt x &&& Int32.ofInt y := Int32.ofInt_toInt _
theorem moi_shl (x y : Int) : Int32.ofInt (iShl x y) = Int32.ofInt x <<< (Int32.ofInt y &&& 31) := Int32.ofInt_toInt _
theorem moi_shr (x y : Int) : Int32.ofInt (iShr x y) = Int32.ofInt x >>> (Int32.ofInt y &&& 31) := Int32.ofInt_toInt _
theorem moi_ush (x y : Int) : Int32.ofInt (iUsh x y) = ((Int32.ofInt x).toUInt32 >>> ((Int32.ofInt y).toUInt32 &&& Int32.toUInt32 31)).toInt32 := Int32.ofInt_toInt _
theorem moi_lshr (x y : Int) : Int64.ofInt (lShr x y) = Int64.ofInt x >>> ((Int32.ofInt y).toInt64 &&& 63) := Int64.ofInt_toInt _
theorem moi_byt (x : Int) : Int32.ofInt (iByt x) = (Int32.ofInt x).toInt8.toInt32 := Int32.ofInt_toInt _
theorem mcI {ad : mAd} {z : Int} : mc ad (.inl z) = .int (Int32.ofInt z) := rfl
set_option maxHeartbeats 4000000 in
theorem mx_ok (C : jC g) (hn : jGL g = nL) {i : Instr} {v : mV} (hd : decode (jGo g) pc = .ok (i, slen i)) (hc : mcst pc i v = true) (h : mx nL pc i v L st = some (pc', L', st')) (kk : JJ g w pc' (mL ad L') (mSt ad st')) : JJ g w pc (mL ad L) (mSt ad st) := by
  cases i with
  | iconst n =>
    simp only [mx] at h; cases h
    rcases v with z | z | r
    · exact j1_iconst C hd (congrArg Value.int (of_decide_eq_true hc)) kk
    · exact absurd hc Bool.false_ne_true
    · exact absurd hc Bool.false_ne_true
  | bipush n =>
    simp only [mx] at h; cases h
    rcases v with z | z | r
    · exact j1_bipush C hd (congrArg Value.int (of_decide_eq_true hc)) kk
    · exact absurd hc Bool.false_ne_true
    · exact absurd hc Bool.false_ne_true
  | sipush n =>
    simp only [mx] at h; cases h
    rcases v with z | z | r
    · exact j1_sipush C hd (congrArg Value.int (of_decide_eq_true hc)) kk
    · exact absurd hc Bool.false_ne_true
    · exact absurd hc Bool.false_ne_true
  | lconst n =>
    simp only [mx] at h; cases h
    rcases v with z | z | r
    · exact absurd hc Bool.false_ne_true
    · exact j1_lconst C hd (congrArg Value.long (of_decide_eq_true hc)) kk
    · exact absurd hc Bool.false_ne_true
  | iload k => exact mld_use C h kk (fun v hv hl q => by
      obtain ⟨z, rfl⟩ := mkd0 hv
      exact j1_iload C hd hl q)
  | iload_n k => exact mld_use C h kk (fun v hv hl q => by
      obtain ⟨z, rfl⟩ := mkd0 hv
      exact j1_iload_n C hd hl q)
  | lload k => exact mld_use C h kk (fun v hv hl q => by
      obtain ⟨z, rfl⟩ := mkd1 hv
      exact j1_lload C hd hl q)
  | lload_n k => exact mld_use C h kk (fun v hv hl q => by
      obtain ⟨z, rfl⟩ := mkd1 hv
      exact j1_lload_n C hd hl q)
  | aload k => exact mld_use C h kk (fun v hv hl q => by
      rcases mkd2 hv with rfl | ⟨f, k, rfl⟩
      · exact j1_aloadN C hd hl q
      · exact j1_aload C hd hl q)
  | aload_n k => exact mld_use C h kk (fun v hv hl q => by
      rcases mkd2 hv with rfl | ⟨f, k, rfl⟩
      · exact j1_aload_nN C hd hl q
      · exact j1_aload_n C hd hl q)
  | istore k =>
    obtain ⟨v, h1, rfl, h2, rfl, rfl⟩ := msto_ok h
    obtain ⟨z, rfl⟩ := mkd0 h2
    rw [← mst_ok] at kk
    exact j1_istore C hn hd h1 kk
  | istore_n k =>
    obtain ⟨v, h1, rfl, h2, rfl, rfl⟩ := msto_ok h
    obtain ⟨z, rfl⟩ := mkd0 h2
    rw [← mst_ok] at kk
    exact j1_istore_n C hn hd h1 kk
  | lstore k =>
    obtain ⟨z, h1, rfl, rfl, rfl⟩ := mlst_ok h
    rw [← mst2_ok] at kk
    exact j1_lstore C hn hd h1 kk
  | lstore_n k =>
    obtain ⟨z, h1, rfl, rfl, rfl⟩ := mlst_ok h
    rw [← mst2_ok] at kk
    exact j1_lstore_n C hn hd h1 kk
  | astore k =>
    obtain ⟨v, h1, rfl, h2, rfl, rfl⟩ := msto_ok h
    rw [← mst_ok] at kk
    rcases mkd2 h2 with rfl | ⟨f, k, rfl⟩
    · exact j1_astoreN C hn hd h1 kk
    · exact j1_astore C hn hd h1 kk
  | astore_n k =>
    obtain ⟨v, h1, rfl, h2, rfl, rfl⟩ := msto_ok h
    rw [← mst_ok] at kk
    rcases mkd2 h2 with rfl | ⟨f, k, rfl⟩
    · exact j1_astore_nN C hn hd h1 kk
    · exact j1_astore_n C hn hd h1 kk
  | iinc k n =>
    simp only [mx] at h
    rcases hb : Nat.blt k nL with _ | _
    · rw [hb] at h; cases h
    · rw [hb] at h
      rcases v with c | c | c
      · rcases hx : mlk L k with _ | x
        · simp only [hx] at h; cases h
        · simp only [hx] at h
          rcases x with x | x | x
          · cases h
            have h9 : jlk (mL ad L) k = some (.int (Int32.ofInt x)) := by rw [mlk_ok, hx]; rfl
            rw [← mst_ok, mcI, Int32.ofInt_add] at kk
            exact j1_iinc C hn hd (of_decide_eq_true hc) (Nat.blt_eq.mp hb) h9 kk
          · cases h
          · cases h
      · exact absurd hc Bool.false_ne_true
      · exact absurd hc Bool.false_ne_true
  | iadd =>
    obtain ⟨x, y, r, rfl, rfl, rfl, rfl⟩ := mb32_ok h
    rw [mSt, List.map_cons, mcI, Int32.ofInt_add] at kk
    exact j1_iadd C hd kk
  | isub =>
    obtain ⟨x, y, r, rfl, rfl, rfl, rfl⟩ := mb32_ok h
    rw [mSt, List.map_cons, mcI, Int32.ofInt_sub] at kk
    exact j1_isub C hd kk
  | imul =>
    obtain ⟨x, y, r, rfl, rfl, rfl, rfl⟩ := mb32_ok h
    rw [mSt, List.map_cons, mcI, Int32.ofInt_mul] at kk
    exact j1_imul C hd kk
  | iand =>
    obtain ⟨x, y, r, rfl, rfl, rfl, rfl⟩ := mb32_ok h
    rw [mSt, List.map_cons, mcI, moi_and] at kk
    exact j1_iand C hd kk
  | ior =>
    obtain ⟨x, y, r, rfl, rfl, rfl, rfl⟩ := mb32_ok h
    rw [mSt, List.map_cons, mcI, moi_or] at kk
    exact j1_ior C hd kk
  | ixor =>
    obtain ⟨x, y, r, rfl, rfl, rfl, rfl⟩ := mb32_ok h
    rw [mSt, List.map_cons, mcI, moi_xor] at kk
    exact j1_ixor C hd kk
  | ishl =>
    obtain ⟨x, y, r, rfl, rfl, rfl, rfl⟩ := mb32_ok h
    rw [mSt, List.map_cons, mcI, moi_shl] at kk
    exact j1_ishl C hd kk
  | ishr =>
    obtain ⟨x, y, r, rfl, rfl, rfl, rfl⟩ := mb32_ok h
    rw [mSt, List.map_cons, mcI, moi_shr] at kk
    exact j1_ishr C hd kk
  | iushr =>
    obtain ⟨x, y, r, rfl, rfl, rfl, rfl⟩ := mb32_ok h
    rw [mSt, List.map_cons, mcI, moi_ush] at kk
    exact j1_iushr C hd kk
  | ineg =>
    simp only [mx] at h
    split at h
    · cases h
      rw [mSt, List.map_cons, mcI, ← Int32.neg_ofInt] at kk
      exact j1_ineg C hd kk
    · cases h
  | ladd =>
    obtain ⟨x, y, r, rfl, rfl, rfl, rfl⟩ := mb64_ok h
    have e : mc ad (vl (x + y)) = .long (Int64.ofInt x + Int64.ofInt y) := congrArg Value.long (Int64.ofInt_add _ _)
    rw [mSt, List.map_cons, e] at kk
    exact j1_ladd C hd kk
  | lsub =>
    obtain ⟨x, y, r, rfl, rfl, rfl, rfl⟩ := mb64_ok h
    have e : mc ad (vl (x - y)) = .long (Int64.ofInt x - Int64.ofInt y) := congrArg Value.long (Int64.ofInt_sub _ _)
    rw [mSt, List.map_cons, e] at kk
    exact j1_lsub C hd kk
  | lmul =>
    obtain ⟨x, y, r, rfl, rfl, rfl, rfl⟩ := mb64_ok h
    have e : mc ad (vl (x * y)) = .long (Int64.ofInt x * Int64.ofInt y) := congrArg Value.long (Int64.ofInt_mul _ _)
    rw [mSt, List.map_cons, e] at kk
    exact j1_lmul C hd kk
  | lshr =>
    simp only [mx] at h
    split at h
    · rename_i y x r
      cases h
      have e : mc ad (vl (lShr x y)) = .long (Int64.ofInt x >>> ((Int32.ofInt y).toInt64 &&& 63)) := congrArg Value.long (moi_lshr _ _)
      rw [mSt, List.map_cons, e] at kk
      exact j1_lshr C hd kk
    · cases h
  | l2i =>
    simp only [mx] at h
    split at h
    · rename_i x r
      cases h
      have e : mc ad (vi x) = .int (Int64.ofInt x).toInt32 := congrArg Value.int Int64.toInt32_ofInt.symm
      rw [mSt, List.map_cons, e] at kk
      exact j1_l2i C hd kk
    · cases h
  | i2b =>
    simp only [mx] at h
    split at h
    · cases h
      rw [mSt, List.map_cons, mcI, moi_byt] at kk
      exact j1_i2b C hd kk
    · cases h
  | dup =>
    rcases st with _ | ⟨v, r⟩
    · cases h
    · rcases v with z | z | q
      · cases h; exact j1_dup C hd rfl kk
      · cases h
      · rcases q with _ | q <;> (cases h; exact j1_dup C hd rfl kk)
  | dup2 =>
    rcases st with _ | ⟨v, _ | ⟨u, r⟩⟩
    · cases h
    · cases h
    · rcases v with z | z | q
      · rcases u with z2 | z2 | q2
        · cases h; exact j1_dup2 C hd rfl rfl kk
        · cases h
        · rcases q2 with _ | q2 <;> (cases h; exact j1_dup2 C hd rfl rfl kk)
      · rcases u with z2 | z2 | q2
        · cases h
        · cases h
        · cases h
      · rcases u with z2 | z2 | q2
        · rcases q with _ | q <;> (cases h; exact j1_dup2 C hd rfl rfl kk)
        · cases h
        · rcases q with _ | q <;> rcases q2 with _ | q2 <;> (cases h; exact j1_dup2 C hd rfl rfl kk)
  | pop =>
    rcases st with _ | ⟨v, r⟩
    · cases h
    · rcases v with z | z | q
      · cases h; exact j1_pop C hd rfl kk
      · cases h
      · rcases q with _ | q <;> (cases h; exact j1_pop C hd rfl kk)
  | pop2 =>
    simp only [mx] at h
    split at h
    · cases h; exact j1_pop2 C hd rfl kk
    · cases h
  | goto n =>
    rcases v with z | z | r
    · cases h
      have hc2 : (decide ((pc : Int) + n = z) && decide (0 ≤ z)) = true := hc
      simp only [Bool.and_eq_true, decide_eq_true_eq] at hc2
      exact j1_goto C hd (by rw [Int.toNat_of_nonneg hc2.2]; exact hc2.1) kk
    · cases h
    · cases h
  | _ => simp only [mx] at h; cases h
def mblkB (cc : ByteArray) (b : List mE) : Bool := b.all (fun q => decide (decode cc q.1 = .ok (q.2.1, slen q.2.1)) && mcst q.1 q.2.1 q.2.2)
theorem mxs_ok (C : jC g) (hn : jGL g = nL) : ∀ (b : List mE) (pc : Nat) (L : List (Nat × mV)) (st : List mV), mblkB (jGo g) b = true → mxs nL b pc L st = some (pc', L', st') → JJ g w pc' (mL ad L') (mSt ad st') → JJ g w pc (mL ad L) (mSt ad st)
  | [], pc, L, st, _, h, kk => by
    simp only [mxs] at h; cases h; exact kk
  | q :: r, pc, L, st, hb, h, kk => by
    simp only [mxs] at h
    simp only [mblkB, List.all_cons, Bool.and_eq_true, decide_eq_true_eq] at hb
    split at h
    · rename_i hq
      have hq := Nat.eq_of_beq_eq_true hq
      subst hq
      split at h
      · rename_i z hz
        obtain ⟨a, b, c⟩ := z
        exact mx_ok C hn hb.1.1 hb.1.2 hz (mxs_ok C hn r _ _ _ (by simp only [mblkB]; exact hb.2) h kk)
      · cases h
    · cases h
end MX
