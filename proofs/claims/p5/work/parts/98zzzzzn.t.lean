/-! both objects with all that odds need, from call to call; where a program ends, of both (own work) -/
theorem tsm_cg9 {v v' : Nat → Int} {c : Nat → kS} : ∀ n a b, (∀ j, a ≤ j → j < b → v j = v' j) → tsm v c n a b = tsm v' c n a b := by
  intro n
  induction n with
  | zero => intro a b _; rfl
  | succ n ih =>
    intro a b h
    unfold tsm
    by_cases k : a < b
    · rw [if_pos k, if_pos k, h a (Nat.le_refl _) k, ih (a + sI (c a)) b (fun j q1 q2 => h j (by omega) q2)]
    · rw [if_neg k, if_neg k]
theorem gv_cgE {p N : Nat} {c : Nat → kS} {bE bE' : Int → Int} (ho : okN p c N) (h : ∀ u : Nat, u < p → bE u = bE' u) : ∀ n i, i < N → gv (Fb c bE) n i = gv (Fb c bE') n i := by
  intro n
  induction n with
  | zero => intro i _; rfl
  | succ n ih =>
    intro i hi
    show Fb c bE (gv (Fb c bE) n) i = Fb c bE' (gv (Fb c bE') n) i
    obtain ⟨⟨hk, -, h1, h3, h4, h5, -⟩, h9⟩ := ho.2.2 i hi
    by_cases c0 : sK (c i) = 0
    · rw [Fb_0 c0, Fb_0 c0]
    by_cases c3 : sK (c i) = 3
    · have o2 := (h3 c3).2.2.1
      rw [Fb_3 c3, Fb_3 c3, tsm_cg9 16 (i + 1) _ (fun j q1 q2 => ih j (by omega)), tsm_cg9 16 (i + sO (c i)) _ (fun j q1 q2 => ih j (by omega))]
    by_cases c4 : sK (c i) = 4
    · rw [Fb_4 c4, Fb_4 c4, tsm_cg9 16 (i + 1) _ (fun j q1 q2 => ih j (by omega))]
    by_cases c5 : sK (c i) = 5
    · obtain ⟨u1, u2⟩ := h5 c5
      have e := h (sU (c i)).toNat (by omega)
      rw [Int.toNat_of_nonneg u1] at e
      rw [Fb_5 c5, Fb_5 c5, e]
    · rw [Fb_o c0 c3 c4 c5, Fb_o c0 c3 c4 c5]
theorem nulN_at {f : Nat → Int} {i : Nat} : ∀ n, i < n → nulN f n = nulN (fun j => if j = i then 0 else f j) n + (if f i < 0 then 1 else 0) := by
  intro n hn
  by_cases k : f i < 0
  · rw [if_pos k]
    exact nulN_set (i := i) k (by show 0 ≤ (if i = i then (0 : Int) else _); rw [if_pos rfl]; decide) n hn (fun j _ hj => if_neg hj)
  · rw [if_neg k, Nat.add_zero]
    clear hn
    induction n with
    | zero => rfl
    | succ n ih =>
      show nulN f n + (if f n < 0 then 1 else 0) = nulN (fun j => if j = i then 0 else f j) n + (if (if n = i then (0 : Int) else f n) < 0 then 1 else 0)
      rw [ih]
      by_cases e : n = i
      · subst e
        rw [if_neg k, if_pos rfl, if_neg (by decide)]
      · rw [if_neg e]
theorem nulN_one {f g : Nat → Int} {i n : Nat} (hi : i < n) (h : ∀ j, j < n → j ≠ i → g j = f j) : nulN f n + (if g i < 0 then 1 else 0) = nulN g n + (if f i < 0 then 1 else 0) := by
  rw [nulN_at (f := f) n hi, nulN_at (f := g) n hi, nulN_cg (f := fun j => if j = i then 0 else f j) (g := fun j => if j = i then 0 else g j) n (fun j hj => by
    show (if j = i then (0 : Int) else g j) = if j = i then (0 : Int) else f j
    by_cases e : j = i
    · rw [if_pos e, if_pos e]
    · rw [if_neg e, if_neg e, h j hj e])]
  omega
theorem gdL.pm {B : Int} {l l' : List xE} (h : gdL B l) (hp : l'.Perm l) : gdL B l' := ⟨(hp.map (fun q : xE => q.1)).nodup_iff.mpr h.1, fun q hq => h.2.1 q (hp.mem_iff.mp hq), by rw [tot_perm hp]; exact h.2.2⟩
abbrev wO (C : mA) (x : Nat) : Nat := (C 8 x 10).toNat
abbrev wMx (C : mA) (x : Nat) : Nat := (C 7 (wO C x) 0).toNat
abbrev wSp (C : mA) (x : Nat) : Nat := (C 7 (wO C x) 1).toNat
def wMd (x : Nat) (C : mA) (p : Nat) : Prop := 0 ≤ C 21 (aOa C x) p
def bA (A : mA) : Int → Int := fun z => A 6 0 z.toNat
def wSe (x : Nat) (C : mA) : Int → Int := fun z => C 2 (aPr C x z.toNat) 11
abbrev mCn (A : mA) : Nat := (A 0 0 0).toNat
def WX (x : Nat) (G : tG) (C A : mA) (T : xT) (sl hm : Nat) : Prop :=
  (∀ p : Nat, (p : Int) < A 0 0 0 → pg9 x p C A (T p).1 (T p).2) ∧
  (WI (wMx C x) (wSp C x) sl hm G C ∧ C 7 (wO C x) 2 = 0 ∧ (C 8 x 11).toNat ≠ (C 8 x 12).toNat) ∧
  (∀ p p', p < 6 → p' < 6 → p ≠ p' → wMd x C p → wMd x C p' → wSd C (aPr C x p) ≠ wSd C (aPr C x p') ∧ wWw C (aPr C x p) ≠ wWw C (aPr C x p')) ∧
  wCa T (mCn A) (aPr C x) C ∧ (wEa (aPr C x) (wMd x C) (wSp C x) G C ∧ wEn T (mCn A) (aPr C x) C) ∧ mCa T (mCn A) A
/-- rooms that odds may still ask for -/
def rmK (x : Nat) (C : mA) : Nat := nul C (wSp C x) + nulN (fun p => if 0 ≤ C 21 (aOa C x) p then C 2 (aPr C x p) 13 else 0) 6
section ENV
variable {D : va_G} {Gt G : tG} {C A : mA} {w : jW} {x sl hm : Nat} {T : xT}
theorem R10env (h : R9 x C A) (hx : WX x G C A T sl hm) : TB T (bA A) (mCn A) ∧ mTab T (mCn A) A ∧ WE (wO C x) (wMx C x) (wSp C x) sl hm T (bA A) (wSe x C) (mCn A) (aPr C x) G C ∧ (∀ u : Nat, u < mCn A → wSe x C u = 0 ∨ wSe x C u = 1) ∧ (∀ p, p < mCn A → wMd x C p) := by
  obtain ⟨-, ⟨b1, b2, b3⟩, -, -, -, f1, g1⟩ := id h.1.1
  have hcn : ((mCn A : Nat) : Int) = A 0 0 0 := Int.toNat_of_nonneg b2
  obtain ⟨hp, ⟨hW, h7, h11⟩, hR, hCa, -, hM⟩ := id hx
  have mk : ∀ p : Nat, p < mCn A → (p : Int) < A 0 0 0 := fun p q => by omega
  refine ⟨⟨by omega, fun p hp' => ?_⟩, fun p hp' => ?_, ⟨hW, ⟨rfl, rfl⟩, fun p hp' => ?_, fun p p' q q' n => hR p p' (by omega) (by omega) n (f1 p (mk p q)).1 (f1 p' (mk p' q')).1, hCa⟩, fun u hu => (f1 u (mk u hu)).2.2.2.2.2, fun p q => (f1 p (mk p q)).1⟩
  · obtain ⟨⟨o1, o2⟩, -, -, pE, bE, tE, sE, el, wg, t1, -⟩ := hp p (mk p hp')
    have hcg := gv_cgE (bE := bE) (bE' := bA A) o1 (fun u hu => (el u hu).2.1)
    refine ⟨o1, o2, ?_, (f1 p (mk p hp')).2.2.2.1⟩
    show A 6 0 ((p : Int)).toNat = _
    rw [Int.toNat_natCast, t1]
    exact tsm_cg9 16 0 _ (fun j _ hj => hcg 16 j hj)
  · exact (hp p (mk p hp')).2.2.1
  · obtain ⟨⟨o1, o2⟩, ⟨v1, v2⟩, -, pE, bE, tE, sE, el, wg, -⟩ := hp p (mk p hp')
    have hcg := gv_cgE (bE := bE) (bE' := bA A) o1 (fun u hu => (el u hu).2.1)
    refine ⟨⟨v1, (f1 p (mk p hp')).2.1⟩, fun i hi => ?_⟩
    obtain ⟨w1, w2, w3, w4⟩ := wg i hi
    obtain ⟨⟨-, -, -, -, -, h5, -⟩, -⟩ := o1.2.2 i hi
    refine ⟨v2 i hi, w1.trans (hcg 16 i hi), ?_, ?_⟩
    · rw [w3]
      unfold vSee
      by_cases c2 : sK ((T p).2 i) = 2
      · rw [if_pos c2, if_pos c2]
      rw [if_neg c2, if_neg c2]
      by_cases c5 : sK ((T p).2 i) = 5
      · obtain ⟨u1, u2⟩ := h5 c5
        have e := (el (sU ((T p).2 i)).toNat (by omega)).2.2.2
        rw [Int.toNat_of_nonneg u1] at e
        rw [if_pos c5, if_pos c5, e]
        rfl
      · rw [if_neg c5, if_neg c5]
    · rw [w4]
      unfold vRan
      by_cases c5 : sK ((T p).2 i) = 5
      · obtain ⟨u1, u2⟩ := h5 c5
        rw [if_pos c5, if_pos c5, (el (sU ((T p).2 i)).toNat (by omega)).1]
      · rw [if_neg c5, if_neg c5]
/-- what a program's end may change, of the whole -/
def oeF (x : Nat) (C C' : mA) : Prop := ∀ f a j, ¬ (f = 0 ∨ (f = 1 ∧ a = wMx C x ∧ j < 3) ∨ f = 23 ∨ f = 28 ∨ f = 29 ∨ f = 31 ∨ f = 32 ∨ f = 33 ∨ (f = 35 ∧ a = wSp C x) ∨ f = 37 ∨ (f = 7 ∧ a = wO C x ∧ j = 2) ∨ (f = 2 ∧ 13 ≤ j)) → C' f a j = C f a j
theorem k2s_13 {k : Nat} (h : k2s k) : k < 13 := by
  rcases h with rfl | rfl | rfl | rfl | rfl | rfl | rfl <;> decide
theorem R9.oe {C' A' : mA} (hw : hW D Gt C w) (gx : Gt x = some 8) (h : R9 x C A) (hf : oeF x C C') (hA : odF A A') : R9 x C' A' := by
  have h1 : R9 x C' A := R9.keepC hw gx h (fun τ a k _ q => hf τ a k (by
    rintro (rfl | ⟨rfl, -⟩ | rfl | rfl | rfl | rfl | rfl | rfl | ⟨rfl, -⟩ | rfl | ⟨rfl, -⟩ | ⟨rfl, q2⟩)
    iterate 11 exact absurd (show false = true from q) (by decide)
    have := List.elem_iff.mp (show List.elem k [0, 1, 2, 4, 5, 8, 9, 10, 11, 12] = true from q)
    simp only [List.mem_cons, List.not_mem_nil, or_false] at this
    omega))
  exact h1.cA ⟨hA 0 0 0 (by omega), hA 0 0 22 (by omega), hA 0 0 37 (by omega)⟩ (fun j _ => hA 9 0 j (by omega)) (fun j _ => ⟨hA 8 0 j (by omega), hA 10 0 j (by omega)⟩) (fun p _ => ⟨hA 5 0 p (by omega), hA 6 0 p (by omega), hA 7 0 p (by omega)⟩) (fun p _ f j q1 q2 _ _ _ => hA f p j (by omega))
theorem oe_pa {C' : mA} (hf : oeF x C C') : wO C' x = wO C x ∧ wMx C' x = wMx C x ∧ wSp C' x = wSp C x ∧ aOa C' x = aOa C x ∧ aPr C' x = aPr C x ∧ ∀ p, C' 21 (aOa C x) p = C 21 (aOa C x) p := by
  have e8 : ∀ k, C' 8 x k = C 8 x k := fun k => hf 8 x k (by omega)
  have e1 : wO C' x = wO C x := by unfold wO; rw [e8]
  have e4 : aOa C' x = aOa C x := congrArg Int.toNat (e8 2)
  have e21 : ∀ p, C' 21 (aOa C x) p = C 21 (aOa C x) p := fun p => hf 21 _ p (by omega)
  refine ⟨e1, ?_, ?_, e4, ?_, e21⟩
  · unfold wMx; rw [e1, hf 7 _ 0 (by omega)]
  · unfold wSp; rw [e1, hf 7 _ 1 (by omega)]
  · funext p
    show (C' 21 (aOa C' x) p).toNat = (C 21 (aOa C x) p).toNat
    rw [e4, e21]
theorem WX.pg {C' A' : mA} (h9 : R9 x C A) (hx : ∀ p : Nat, (p : Int) < A 0 0 0 → pg9 x p C A (T p).1 (T p).2) (hf : oeF x C C') (hA : odF A A') : ∀ p : Nat, (p : Int) < A' 0 0 0 → pg9 x p C' A' (T p).1 (T p).2 := fun p hp => by
  obtain ⟨-, ⟨b1, b2, b3⟩, -⟩ := id h9.1.1
  rw [hA 0 0 0 (by omega)] at hp
  obtain ⟨-, -, -, -, e5, -⟩ := oe_pa hf
  exact (hx p hp).cg (by omega) (fun u _ => by rw [e5]) (fun u _ k hk => hf 2 _ k (by have := k2s_13 hk; omega)) (fun j => hf 25 _ j (by omega)) (fun i _ k _ => hf 6 _ k (by omega)) (fun j => hf 36 _ j (by omega)) (fun a j _ => hf 27 a j (by omega)) (hA 5 0 p (by omega)) (fun u _ => ⟨hA 6 0 u (by omega), hA 7 0 u (by omega)⟩) (fun f j q1 q2 _ _ _ => hA f p j (by omega))
/-- where a program ends: both at once -/
theorem both_endH (hRR : ∀ C' A', oeF x C C' → odF A A' → R9 x C' A') (h : R9 x C A) (hx : WX x G C A T sl hm) {p k r9 : Nat} {A' : mA} (hp : (p : Int) < A 0 0 0) (hk : rmK x C ≤ k) (a2 : mCa T (mCn A) A') (a4 : mkR A' r9 (sEnd T 40 p (dsum (A 8 0)))) (a5 : odF A A') : oQ A' r9 ∧ ((A' 0 0 34 = 0 ∧ gdL 50 (oC A' r9)) ∨ A' 0 0 34 = 1) ∧ ∀ Q : wQ, (∀ (r : Int) (k' : Nat) (G' : tG) (C' : mA), R9 x C' A' → WX x G' C' A' T sl hm → (∀ a τ, G a = some τ → G' a = some τ) → oeF x C C' → rmK x C + k' = rmK x C' + k → ((0 ≤ C 2 (aPr C x p) 13 → C' 2 (aPr C x p) 13 = C 2 (aPr C x p) 13) ∧ C' 2 (aPr C x p) 14 = C 8 x 4 ∧ ∀ q, q ≠ p → q < 6 → wMd x C q → ∀ j, C' 2 (aPr C x q) j = C 2 (aPr C x q) j) → ((r = -1 ∧ A' 0 0 34 = 1) ∨ (A' 0 0 34 = 0 ∧ ∃ (cr : Nat) (l : List xE), r = cr ∧ CWs C' cr l ∧ gdL 50 l ∧ oQ A' r9 ∧ (oC A' r9).Perm l ∧ C' 2 (aPr C x p) 13 = cr ∧ sEnd T 40 p (dsum (A 8 0)) = some l)) → Q r C' G' k') → w_CS_endOf k G C x p Q := by
  obtain ⟨hT, hm, hE, hs, hmd⟩ := R10env h hx
  obtain ⟨-, ⟨b1, b2, b3⟩, -, -, -, f1, g1⟩ := id h.1.1
  have hcn : ((mCn A : Nat) : Int) = A 0 0 0 := Int.toNat_of_nonneg b2
  obtain ⟨hpg, ⟨hW, h7, h11⟩, hR, hCa, ⟨hEa, hEn⟩, hMc⟩ := id hx
  have hpc : p < mCn A := by omega
  have hT9 := h.2.2.1.1
  have h8 : ∀ j, j < 6 → 0 ≤ A 8 0 j ∧ A 8 0 j ≤ 9 := fun j hj => (hT9.2 j hj).2
  have hss : vs9 (C 8 x 4) := vs9.of hT9
  have eud : ud (C 8 x 4) = dsum (A 8 0) := dsum_cg (fun j hj => (hT9.2 j hj).1)
  obtain ⟨ho, hX, hb, hb0, hb1⟩ := hT.2 p hpc
  have gdE : ∀ l, sEnd T 40 p (dsum (A 8 0)) = some l → gdL 50 l := fun l x3 => by
    obtain ⟨g1', -⟩ := gd_bk hT hpc (B := 0) ho.2.1 (Nat.le_refl _) (Int.le_refl _) (gd_one (tn9_sum h8).1) (by rw [← hb]; omega) x3
    exact g1'.mono (by rw [← hb]; omega)
  refine ⟨a4.1, ?_, fun Q hQ => ?_⟩
  · rcases a4.2 with ⟨y, l', y2, y3, -⟩ | ⟨y, -⟩
    · exact Or.inl ⟨y, (gdE l' y2).pm y3⟩
    · exact Or.inr y
  have e0 : A' 0 0 0 = A 0 0 0 := a5 0 0 0 (by omega)
  have rp : 0 ≤ (p : Int) ∧ (p : Int) < ((6 : Nat) : Int) := by omega
  have r21 := (f1 p hp).1
  unfold w_CS_endOf
  simp only [Int.toNat_natCast]
  rw [if_pos rp, if_pos r21]
  have hk2 : nul C (wSp C x) + (if C 2 (aPr C x p) 13 < 0 then 1 else 0) ≤ k := by
    have h6 := nulN_at (f := fun p => if 0 ≤ C 21 (aOa C x) p then C 2 (aPr C x p) 13 else 0) (i := p) 6 (by omega)
    rw [if_pos r21] at h6
    unfold rmK at hk
    omega
  refine w_endF (md := wMd x C) hT hm hs hpc (fun q q' hq hq' m1 m2 n => g1 q q' hq hq' n m1 m2) hmd hE h7 hk2 hEa hEn hss (fun r k' G' C' c1 c2 c3 c4 c5 c6 c7 c9 c8 => ?_)
  have hf : oeF x C C' := fun f a j q => c3 f a j (fun z => q (Or.imp_right (Or.imp_right (Or.imp_right (Or.imp_right (Or.imp_right (Or.imp_right (Or.imp_right (Or.imp_right (Or.imp_right (Or.imp_right (Or.imp_right (fun y => ⟨y.1, y.2.2⟩))))))))))) z))
  obtain ⟨q1, q2, q3, q4, q5, q6⟩ := oe_pa hf
  have e5 : mCn A' = mCn A := by unfold mCn; rw [e0]
  have hfp : ∀ q, q ≠ p → q < 6 → wMd x C q → ∀ j, C' 2 (aPr C x q) j = C 2 (aPr C x q) j := fun q hq h6 hm' j => c3 2 _ j (by
    have := g1 q p h6 (by omega) hq hm' (hmd p hpc)
    omega)
  have hfs : ∀ f a j, (f = 2 ∧ j < 13) ∨ f = 4 → C' f a j = C f a j := fun f a j z => hf f a j (by omega)
  have hwmd : ∀ q, wMd x C' q ↔ wMd x C q := fun q => by unfold wMd; rw [q4, q6]
  have key : ∀ r' : Int, ((r' = -1 ∧ A' 0 0 34 = 1) ∨ (A' 0 0 34 = 0 ∧ ∃ (cr : Nat) (l : List xE), r' = cr ∧ CWs C' cr l ∧ gdL 50 l ∧ oQ A' r9 ∧ (oC A' r9).Perm l ∧ C' 2 (aPr C x p) 13 = cr ∧ sEnd T 40 p (dsum (A 8 0)) = some l)) → Q r' C' G' k' := fun r' hr' => by
    refine hQ r' k' G' C' (hRR C' A' hf a5) ⟨WX.pg h hpg hf a5, ⟨by rw [q2, q3]; exact c1.1, by rw [q1]; exact c4, by rw [hf 8 x 11 (by clear hr' h11; omega), hf 8 x 12 (by clear hr' h11; omega)]; exact h11⟩, fun u u' hu hu' n m1 m2 => ?_, by rw [e5, q5]; exact c1.2.2.2.2, ⟨?_, by rw [e5, q5]; exact c7⟩, by rw [e5]; exact a2⟩ c2 hf ?_ ⟨c9.1, c9.2, hfp⟩ hr'
    · rw [q5, (wSd.fr hfs _).1, (wSd.fr hfs _).1, (wSd.fr hfs _).2, (wSd.fr hfs _).2]
      exact hR u u' hu hu' n ((hwmd u).mp m1) ((hwmd u').mp m2)
    · rw [q5, q3]
      intro u hu m1 h1
      obtain ⟨v1, v2⟩ := c6 u hu ((hwmd u).mp m1) h1
      exact ⟨v1, fun u' hu' m2 hn h2 => v2 u' hu' ((hwmd u').mp m2) hn h2⟩
    · -- rooms
      have hN := nulN_one (f := fun p => if 0 ≤ C 21 (aOa C x) p then C 2 (aPr C x p) 13 else 0) (g := fun p => if 0 ≤ C' 21 (aOa C' x) p then C' 2 (aPr C' x p) 13 else 0) (i := p) (n := 6) (by omega) (fun j hj hjp => by
        show (if 0 ≤ C' 21 (aOa C' x) j then C' 2 (aPr C' x j) 13 else 0) = if 0 ≤ C 21 (aOa C x) j then C 2 (aPr C x j) 13 else 0
        rw [q4, q6, q5]
        by_cases z : 0 ≤ C 21 (aOa C x) j
        · rw [if_pos z, if_pos z, hfp j hjp hj z]
        · rw [if_neg z, if_neg z])

      rw [q4, q6, q5, if_pos r21] at hN
      unfold rmK
      rw [q3, q4, q5]
      rw [if_pos r21] at hN
      omega
  rcases c8 with ⟨x1, x2⟩ | ⟨x1, x2, l, x3, x4⟩
  · have : A' 0 0 34 = 1 := by
      rw [eud] at x2
      rcases a4.2 with ⟨-, l', y, -⟩ | ⟨y, -⟩
      · rw [x2] at y; cases y
      · exact y
    rw [if_neg (by omega)]
    exact key (-1) (Or.inl ⟨rfl, this⟩)
  · rw [eud] at x3
    have h34 : A' 0 0 34 = 0 ∧ (oC A' r9).Perm l := by
      rcases a4.2 with ⟨y, l', y2, y3, -⟩ | ⟨-, y⟩
      · rw [x3] at y2
        cases y2
        exact ⟨y, y3⟩
      · rw [x3] at y; cases y
    rw [x1, if_pos (Int.natCast_nonneg _), Int.toNat_natCast]
    exact key _ (Or.inr ⟨h34.1, _, l, rfl, x4, gdE l x3, a4.1, h34.2, (Int.toNat_of_nonneg x2).symm, x3⟩)
theorem both_endG (hw : hW D Gt C w) (gx : Gt x = some 8) (h : R9 x C A) (hx : WX x G C A T sl hm) {p k r9 : Nat} {A' : mA} (hp : (p : Int) < A 0 0 0) (hk : rmK x C ≤ k) (a2 : mCa T (mCn A) A') (a4 : mkR A' r9 (sEnd T 40 p (dsum (A 8 0)))) (a5 : odF A A') : oQ A' r9 ∧ ((A' 0 0 34 = 0 ∧ gdL 50 (oC A' r9)) ∨ A' 0 0 34 = 1) ∧ ∀ Q : wQ, (∀ (r : Int) (k' : Nat) (G' : tG) (C' : mA), R9 x C' A' → WX x G' C' A' T sl hm → (∀ a τ, G a = some τ → G' a = some τ) → oeF x C C' → rmK x C + k' = rmK x C' + k → ((r = -1 ∧ A' 0 0 34 = 1) ∨ (A' 0 0 34 = 0 ∧ ∃ (cr : Nat) (l : List xE), r = cr ∧ CWs C' cr l ∧ gdL 50 l ∧ oQ A' r9 ∧ (oC A' r9).Perm l)) → Q r C' G' k') → w_CS_endOf k G C x p Q := by
  obtain ⟨h1, h2, h3⟩ := both_endH (fun C' A' q1 q2 => R9.oe hw gx h q1 q2) h hx hp hk a2 a4 a5
  refine ⟨h1, h2, fun Q hQ => h3 Q (fun r k' G' C' b1 b2 b3 b4 b5 _ b6 => hQ r k' G' C' b1 b2 b3 b4 b5 ?_)⟩
  rcases b6 with y | ⟨y1, cr, l, y2, y3, y4, y5, y6, -⟩
  · exact Or.inl y
  · exact Or.inr ⟨y1, cr, l, y2, y3, y4, y5, y6⟩
theorem both_end (hw : hW D Gt C w) (gx : Gt x = some 8) (h : R9 x C A) (hx : WX x G C A T sl hm) {p k : Nat} (hp : (p : Int) < A 0 0 0) (hk : rmK x C ≤ k) : ∃ A', f_Mo_oddsO A p (-1) = some (1, A') ∧ odF A A' ∧ ((A' 0 0 34 = 0 → A' 0 0 33 = 2) ∧ (A' 0 0 34 = 1 → 0 ≤ A' 0 0 33 ∧ A' 0 0 33 ≤ 19)) ∧ oQ A' 1 ∧ ((A' 0 0 34 = 0 ∧ gdL 50 (oC A' 1)) ∨ A' 0 0 34 = 1) ∧ ∀ Q : wQ, (∀ (r : Int) (k' : Nat) (G' : tG) (C' : mA), R9 x C' A' → WX x G' C' A' T sl hm → (∀ a τ, G a = some τ → G' a = some τ) → oeF x C C' → rmK x C + k' = rmK x C' + k → ((r = -1 ∧ A' 0 0 34 = 1) ∨ (A' 0 0 34 = 0 ∧ ∃ (cr : Nat) (l : List xE), r = cr ∧ CWs C' cr l ∧ gdL 50 l ∧ oQ A' 1 ∧ (oC A' 1).Perm l)) → Q r C' G' k') → w_CS_endOf k G C x p Q := by
  obtain ⟨hT, hm', hE, hs, hmd⟩ := R10env h hx
  obtain ⟨-, ⟨b1, b2, b3⟩, -⟩ := id h.1.1
  have hpc : p < mCn A := by unfold mCn; omega
  have h8 : ∀ j, j < 6 → 0 ≤ A 8 0 j ∧ A 8 0 j ≤ 9 := fun j hj => (h.2.2.1.1.2 j hj).2
  obtain ⟨A', a1, a2, a3, a4, a5, a6⟩ := m_odds hT hpc hm' hx.2.2.2.2.2 h8
  exact ⟨A', a1, a5, a6, both_endG hw gx h hx hp hk a2 a4 a5⟩
/-- where another program ends, beside the first -/
theorem both_beside (hw : hW D Gt C w) (gx : Gt x = some 8) (h : R9 x C A) (hx : WX x G C A T sl hm) {p k : Nat} (hp : (p : Int) < A 0 0 0) (hk : rmK x C ≤ k) (h33 : 0 ≤ A 0 0 33 ∧ A 0 0 33 ≤ 60) : ∃ (u : Nat) (A' : mA), A 0 0 33 = u ∧ f_Mo_oddsBeside A p (-1) = some (((u + 1 : Nat) : Int), A') ∧ odF A A' ∧ mkF u A A' ∧ oQ A' (u + 1) ∧ ((A' 0 0 34 = 0 ∧ gdL 50 (oC A' (u + 1))) ∨ A' 0 0 34 = 1) ∧ ∀ Q : wQ, (∀ (r : Int) (k' : Nat) (G' : tG) (C' : mA), R9 x C' A' → WX x G' C' A' T sl hm → (∀ a τ, G a = some τ → G' a = some τ) → oeF x C C' → rmK x C + k' = rmK x C' + k → ((r = -1 ∧ A' 0 0 34 = 1) ∨ (A' 0 0 34 = 0 ∧ ∃ (cr : Nat) (l : List xE), r = cr ∧ CWs C' cr l ∧ gdL 50 l ∧ oQ A' (u + 1) ∧ (oC A' (u + 1)).Perm l)) → Q r C' G' k') → w_CS_endOf k G C x p Q := by
  obtain ⟨hT, hm', hE, hs, hmd⟩ := R10env h hx
  obtain ⟨-, ⟨b1, b2, b3⟩, -⟩ := id h.1.1
  have hpc : p < mCn A := by unfold mCn; omega
  have h8 : ∀ j, j < 6 → 0 ≤ A 8 0 j ∧ A 8 0 j ≤ 9 := fun j hj => (h.2.2.1.1.2 j hj).2
  obtain ⟨u, hu⟩ : ∃ u : Nat, A 0 0 33 = u := ⟨(A 0 0 33).toNat, by omega⟩
  obtain ⟨r, A', a1, rfl, a3, a4, a5, a6, a7⟩ := m_beside hT hpc hm' hx.2.2.2.2.2 h8 hu (by omega)
  exact ⟨u, A', hu, a1, a6.od, a6, both_endG hw gx h hx hp hk a3 a5 a6.od⟩
end ENV
