/-! needed of both: alike (own work) -/
def nAn (v b : Int) : Int := iAnd v (iXor b (-1))
def nBt (s : kS) : Int := if sN s = -1 then 0 else iShl 1 (sN s)
def ndL (f : Int → Int) : Nat → Int → Int
  | 0, v => v
  | t + 1, v => ndL f t (f v)
def ndB (c : Nat → kS) (h : Nat → Int → Int) : Nat → Nat → Nat → Int → Int
  | 0, _, _, v => v
  | n + 1, a, b, v => if a < b then h a (ndB c h n (a + sI (c a)) b v) else v
def ndF (c : Nat → kS) (sE : Int → Int) (h : Nat → Int → Int) (i : Nat) (v : Int) : Int :=
  if sK (c i) = 0 then nAn v (nBt (c i))
  else if sK (c i) = 1 then (if iAnd v (nBt (c i)) = 0 then v else iOr (nAn v (nBt (c i))) (kSee 0 (sC (c i))))
  else if sK (c i) = 2 then iOr v (kSee 0 (sC (c i)))
  else if sK (c i) = 3 then iOr (iOr (ndB c h 16 (i + 1) (i + sO (c i)) v) (ndB c h 16 (i + sO (c i)) (i + sI (c i)) v)) (kSee 0 (sC (c i)))
  else if sK (c i) = 4 then ndL (ndB c h 16 (i + 1) (i + sI (c i))) (sU (c i)).toNat v
  else (if iAnd v (nBt (c i)) = 0 ∧ sE (sU (c i)) = 0 then v else iOr (nAn v (nBt (c i))) (kSee 0 (sC (c i))))
def ndS (c : Nat → kS) (sE : Int → Int) : Nat → Nat → Int → Int
  | 0, _, v => v
  | n + 1, i, v => ndF c sE (ndS c sE n) i v
section ND1
variable {c : Nat → kS} {N : Nat} {others L : Int} {sE : Int → Int} {h h' : Nat → Int → Int}
theorem ndL_congr {f f' : Int → Int} (e : ∀ v, f v = f' v) : ∀ t v, ndL f t v = ndL f' t v := by
  intro t
  induction t with
  | zero => intro v; rfl
  | succ t ih => intro v; show ndL f t (f v) = ndL f' t (f' v); rw [e, ih]
theorem ndB_congr : ∀ n a b, tl c L n a b → (∀ j, a ≤ j → j < b → ∀ v, h j v = h' j v) → ∀ v, ndB c h n a b v = ndB c h' n a b v := by
  intro n
  induction n with
  | zero => intro a b _ _ v; rfl
  | succ n ih =>
    intro a b t e v
    unfold ndB
    rcases t with t | ⟨t1, t2, t3, t4, t5, t6⟩
    · rw [if_neg (by omega), if_neg (by omega)]
    · rw [if_pos t1, if_pos t1, e a (Nat.le_refl a) t1, ih _ _ t6 (fun j q1 q2 v => e j (by omega) q2 v)]
theorem ndB_up : ∀ n a b, tl c L n a b → ∀ v, ndB c h (n + 1) a b v = ndB c h n a b v := by
  intro n
  induction n with
  | zero =>
    intro a b t v
    have t : a = b := t
    show (if a < b then _ else v) = v
    rw [if_neg (by omega)]
  | succ n ih =>
    intro a b t v
    rcases t with t | ⟨t1, t2, t3, t4, t5, t6⟩
    · show (if a < b then _ else v) = (if a < b then _ else v)
      rw [if_neg (by omega), if_neg (by omega)]
    · show (if a < b then h a (ndB c h (n + 1) (a + sI (c a)) b v) else v) = (if a < b then h a (ndB c h n (a + sI (c a)) b v) else v)
      rw [ih _ _ t6]
theorem ndB_add {n a b : Nat} (t : tl c L n a b) : ∀ k v, ndB c h (n + k) a b v = ndB c h n a b v := by
  intro k
  induction k with
  | zero => intro v; rfl
  | succ k ih =>
    intro v
    rw [← Nat.add_assoc, ndB_up _ _ _ (tl_add t k), ih]
theorem ndB_16 {n a b : Nat} (t : tl c L n a b) (hn : n ≤ 16) (v : Int) : ndB c h 16 a b v = ndB c h n a b v := by
  have := ndB_add (h := h) t (16 - n) v
  rw [show n + (16 - n) = 16 by omega] at this
  exact this
theorem ndF_c (ho : okN others c N) : ∀ i, i < N → (∀ j, i < j → j < N → ∀ v, h j v = h' j v) → ∀ v, ndF c sE h i v = ndF c sE h' i v := fun i hi e v => by
  obtain ⟨⟨-, -, h1, h3, h4, -⟩, h9⟩ := ho.2.2 i hi
  unfold ndF
  by_cases c0 : sK (c i) = 0
  · rw [if_pos c0, if_pos c0]
  rw [if_neg c0, if_neg c0]
  by_cases c1 : sK (c i) = 1
  · rw [if_pos c1, if_pos c1]
  rw [if_neg c1, if_neg c1]
  by_cases c2 : sK (c i) = 2
  · rw [if_pos c2, if_pos c2]
  rw [if_neg c2, if_neg c2]
  by_cases c3 : sK (c i) = 3
  · obtain ⟨-, o1, o2, t1, t2⟩ := h3 c3
    rw [if_pos c3, if_pos c3, ndB_congr _ _ _ t1 (fun j q1 q2 v => e j (by omega) (by omega) v), ndB_congr _ _ _ t2 (fun j q1 q2 v => e j (by omega) (by omega) v)]
  rw [if_neg c3, if_neg c3]
  by_cases c4 : sK (c i) = 4
  · obtain ⟨-, -, t1⟩ := h4 c4
    rw [if_pos c4, if_pos c4]
    exact ndL_congr (fun v => ndB_congr _ _ _ t1 (fun j q1 q2 v => e j (by omega) (by omega) v) v) _ _
  rw [if_neg c4, if_neg c4]
theorem ndS_st (ho : okN others c N) : ∀ n i, N ≤ n + i → i < N → ∀ v, ndS c sE (n + 1) i v = ndS c sE n i v := by
  intro n
  induction n with
  | zero => intro i h1 h2; omega
  | succ n ih =>
    intro i h1 h2 v
    show ndF c sE (ndS c sE (n + 1)) i v = ndF c sE (ndS c sE n) i v
    exact ndF_c ho i h2 (fun j q1 q2 v => ih j (by omega) q2 v) v
theorem ndS_eq (ho : okN others c N) {i : Nat} (hi : i < N) (v : Int) : ndS c sE 16 i v = ndF c sE (ndS c sE 16) i v := by
  have hN := ho.1
  rw [← ndS_st ho 16 i (by omega) hi v]
  rfl
theorem ndB_r : ∀ n a b, tl c L n a b → (∀ j, a ≤ j → j < b → ∀ v, g32 v → g32 (h j v)) → ∀ v, g32 v → g32 (ndB c h n a b v) := by
  intro n
  induction n with
  | zero => intro a b _ _ v hv; exact hv
  | succ n ih =>
    intro a b t e v hv
    unfold ndB
    rcases t with t | ⟨t1, t2, t3, t4, t5, t6⟩
    · rw [if_neg (by omega)]
      exact hv
    · rw [if_pos t1]
      exact e a (Nat.le_refl a) t1 _ (ih _ _ t6 (fun j q1 q2 v hv => e j (by omega) q2 v hv) v hv)
theorem ndL_r {f : Int → Int} (e : ∀ v, g32 v → g32 (f v)) : ∀ t v, g32 v → g32 (ndL f t v) := by
  intro t
  induction t with
  | zero => intro v hv; exact hv
  | succ t ih => intro v hv; exact ih _ (e v hv)
theorem ndS_r (ho : okN others c N) : ∀ k i, N ≤ k + i → i < N → ∀ v, g32 v → g32 (ndS c sE 16 i v) := by
  intro k
  induction k with
  | zero => intro i h1 h2; omega
  | succ k ih =>
    intro i h1 h2 v hv
    obtain ⟨⟨-, -, -, h3, h4, -⟩, h9⟩ := ho.2.2 i h2
    rw [ndS_eq ho h2]
    unfold ndF
    by_cases c0 : sK (c i) = 0
    · rw [if_pos c0]
      exact iAnd_r _ _
    rw [if_neg c0]
    by_cases c1 : sK (c i) = 1
    · rw [if_pos c1]
      by_cases q : iAnd v (nBt (c i)) = 0
      · rw [if_pos q]
        exact hv
      · rw [if_neg q]
        exact iOr_r _ _
    rw [if_neg c1]
    by_cases c2 : sK (c i) = 2
    · rw [if_pos c2]
      exact iOr_r _ _
    rw [if_neg c2]
    by_cases c3 : sK (c i) = 3
    · rw [if_pos c3]
      exact iOr_r _ _
    rw [if_neg c3]
    by_cases c4 : sK (c i) = 4
    · obtain ⟨-, -, t1⟩ := h4 c4
      rw [if_pos c4]
      exact ndL_r (fun v hv => ndB_r _ _ _ t1 (fun j q1 q2 v hv => ih j (by omega) (by omega) v hv) v hv) _ _ hv
    rw [if_neg c4]
    by_cases q : iAnd v (nBt (c i)) = 0 ∧ sE (sU (c i)) = 0
    · rw [if_pos q]
      exact hv
    · rw [if_neg q]
      exact iOr_r _ _
end ND1
/-! bits -/
theorem can32 {v : Int} (h : g32 v) : (Int32.ofInt v).toInt = v := iR h
theorem iOr_c (a b : Int) : iOr a b = iOr b a := by
  unfold iOr
  congr 1
  apply Int32.toBitVec_inj.mp
  simp [BitVec.or_comm]
theorem iOr_3 (a b e : Int) : iOr (iOr e a) b = iOr (iOr a b) e := by
  have k : ∀ a b e : Int32, e ||| a ||| b = a ||| b ||| e := fun a b e => by
    apply Int32.toBitVec_inj.mp
    simp only [Int32.toBitVec_or]
    rw [BitVec.or_assoc, BitVec.or_comm]
  unfold iOr
  rw [Int32.ofInt_toInt, Int32.ofInt_toInt]
  exact congrArg Int32.toInt (k _ _ _)
theorem nAn_0 {v : Int} (h : g32 v) : nAn v 0 = v := by
  have k : ∀ v : Int32, v &&& ((0 : Int32) ^^^ (-1)) = v := fun v => by
    apply Int32.toBitVec_inj.mp
    show v.toBitVec &&& (0#32 ^^^ (-1 : Int32).toBitVec) = v.toBitVec
    rw [show (0#32 ^^^ (-1 : Int32).toBitVec) = BitVec.allOnes 32 by decide, BitVec.and_allOnes]
  unfold nAn iAnd iXor
  rw [Int32.ofInt_toInt]
  have e := congrArg Int32.toInt (k (Int32.ofInt v))
  rw [can32 h] at e
  exact e
/-- a set has none of these, just if it is what is left without them -/
theorem nAn_e {v b : Int} (h : g32 v) : nAn v b = v ↔ iAnd v b = 0 := by
  have k : ∀ v b : BitVec 32, v &&& ~~~b = v ↔ v &&& b = 0#32 := fun v b => by
    constructor
    · intro e
      rw [← e]
      apply BitVec.eq_of_getLsbD_eq
      intro i hi
      simp only [BitVec.getLsbD_and, BitVec.getLsbD_not]
      cases b.getLsbD i <;> simp
    · intro e
      apply BitVec.eq_of_getLsbD_eq
      intro i hi
      have q := congrArg (fun z => BitVec.getLsbD z i) e
      simp only [BitVec.getLsbD_and] at q
      simp only [BitVec.getLsbD_and, BitVec.getLsbD_not, hi, decide_true, Bool.true_and]
      cases hv : v.getLsbD i with
      | false => rfl
      | true =>
        rw [hv] at q
        cases hb : b.getLsbD i with
        | false => rfl
        | true =>
          rw [hb] at q
          simp at q
  have hx : ∀ b : Int32, (b ^^^ (-1)).toBitVec = ~~~ b.toBitVec := fun b => by
    show b.toBitVec ^^^ (-1 : Int32).toBitVec = _
    rw [show (-1 : Int32).toBitVec = BitVec.allOnes 32 by decide, BitVec.xor_allOnes]
  unfold nAn iAnd iXor
  rw [Int32.ofInt_toInt]
  have q := k (Int32.ofInt v).toBitVec (Int32.ofInt b).toBitVec
  constructor
  · intro e
    have e2 : Int32.ofInt v &&& (Int32.ofInt b ^^^ Int32.ofInt (-1)) = Int32.ofInt v := by
      apply Int32.toInt_inj.mp
      rw [can32 h]
      exact e
    have e3 := q.mp (by rw [← hx]; exact congrArg Int32.toBitVec e2)
    have e4 : Int32.ofInt v &&& Int32.ofInt b = 0 := Int32.toBitVec_inj.mp e3
    rw [e4]
    rfl
  · intro e
    have e2 : Int32.ofInt v &&& Int32.ofInt b = 0 := by
      apply Int32.toInt_inj.mp
      rw [e]
      rfl
    have e3 := q.mpr (congrArg Int32.toBitVec e2)
    have e4 : Int32.ofInt v &&& (Int32.ofInt b ^^^ (-1)) = Int32.ofInt v := by
      apply Int32.toBitVec_inj.mp
      show (Int32.ofInt v).toBitVec &&& (Int32.ofInt b ^^^ (-1)).toBitVec = _
      rw [hx]
      exact e3
    have e5 := congrArg Int32.toInt e4
    rw [can32 h] at e5
    exact e5
