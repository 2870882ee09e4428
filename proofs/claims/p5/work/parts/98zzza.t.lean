/-! both objects' programs, in full (own work) -/
def cS9 (C : mA) (pr i : Nat) (s : kS) : Prop :=
  (C 6 (sAd C pr i) 0 = sK s ∧ C 6 (sAd C pr i) 1 = sN s ∧ C 6 (sAd C pr i) 2 = sU s ∧ C 6 (sAd C pr i) 3 = ((sI s : Nat) : Int) ∧ C 6 (sAd C pr i) 4 = sV s) ∧ (sK s = 3 → C 6 (sAd C pr i) 5 = ((i + sO s : Nat) : Int)) ∧ C 6 (sAd C pr i) 6 = kSee 0 (sC s) ∧
  (sK s ≠ 0 → sK s ≠ 4 → ∃ n : Nat, C 6 (sAd C pr i) 9 = n ∧ C 6 (sAd C pr i) 10 = ((n + (sC s).length : Nat) : Int) ∧ n + (sC s).length ≤ 120 ∧ codesAt C (C 2 pr 2).toNat n (sC s)) ∧
  (sK s = 0 → ∃ n : Nat, C 6 (sAd C pr i) 11 = n ∧ n + (sL s).length ≤ 60 ∧ lotsAt C (C 2 pr 4).toNat (C 2 pr 5).toNat n (sL s))
def mS9 (A : mA) (p i : Nat) (s : kS) : Prop :=
  (A 34 p i = sK s ∧ A 35 p i = sN s ∧ A 36 p i = sU s ∧ A 37 p i = ((i + sI s : Nat) : Int) ∧ (sK s = 3 → A 38 p i = ((i + sO s : Nat) : Int))) ∧
  (sK s ≠ 0 → sK s ≠ 4 → A 39 p i < 120 ∧ nTr A p (A 39 p i) (sC s)) ∧ (sK s = 0 ∨ sK s = 4 → A 39 p i = -1) ∧
  (sK s = 0 → ∃ n : Nat, A 40 p i = n ∧ n + (sL s).length ≤ 120 ∧ lotsM A p n (sL s))
/-- what elder programs come to -/
def el9 (x p : Nat) (C A : mA) (pE : Nat → Nat) (bE tE sE : Int → Int) : Prop := ∀ u : Nat, u < p → pE u = aPr C x u ∧ bE u = A 6 0 u ∧ tE u = A 7 0 u ∧ sE u = C 2 (aPr C x u) 11
def wg9 (C : mA) (pr N : Nat) (c : Nat → kS) (pE : Nat → Nat) (bE tE sE : Int → Int) : Prop := ∀ i, i < N → C 6 (sAd C pr i) 7 = gv (Fb c bE) 16 i ∧ C 6 (sAd C pr i) 8 = gv (Ft c tE) 16 i ∧ C 6 (sAd C pr i) 12 = vSee c sE i ∧ C 6 (sAd C pr i) 13 = vRan c pE i
/-- a program of both -/
def pg9 (x p : Nat) (C A : mA) (N : Nat) (c : Nat → kS) : Prop :=
  (okN p c N ∧ ∀ i, i < N → okX (c i)) ∧ (C 2 (aPr C x p) 1 = N ∧ ∀ i, i < N → cS9 C (aPr C x p) i (c i)) ∧ (A 5 0 p = N ∧ ∀ i, i < N → mS9 A p i (c i)) ∧
  ∃ pE bE tE sE, el9 x p C A pE bE tE sE ∧ wg9 C (aPr C x p) N c pE bE tE sE ∧ A 6 0 p = tsm (gv (Fb c bE) 16) c 16 0 N ∧ A 7 0 p = tsm (gv (Ft c tE) 16) c 16 0 N ∧ C 2 (aPr C x p) 10 = nmS c N N ∧ C 2 (aPr C x p) 11 = ssS c sE N N
def P9 (x : Nat) (C A : mA) : Prop := ∀ p : Nat, (p : Int) < A 0 0 0 → ∃ N c, pg9 x p C A N c
def T9 (x : Nat) (C A : mA) : Prop := st9 (C 8 x 4) (A 8 0) ∧ (C 8 x 5 = 0 ∨ st9 (C 8 x 6) (A 10 0))
/-- two programs share nothing -/
def xd (C : mA) (r : Nat) (C' : mA) (r' : Nat) : Prop := (C 2 r 2).toNat ≠ (C' 2 r' 2).toNat ∧ ((C 2 r 4).toNat ≠ (C' 2 r' 4).toNat ∧ (C 2 r 4).toNat ≠ (C' 2 r' 5).toNat ∧ (C 2 r 5).toNat ≠ (C' 2 r' 4).toNat ∧ (C 2 r 5).toNat ≠ (C' 2 r' 5).toNat) ∧ (C 4 (C 2 r 12).toNat 0).toNat ≠ (C' 4 (C' 2 r' 12).toNat 0).toNat
def X9 (x : Nat) (C : mA) : Prop := ∀ p p', p < 6 → p' < 6 → p ≠ p' → 0 ≤ C 21 (aOa C x) p → 0 ≤ C 21 (aOa C x) p' → xd C (aPr C x p) C (aPr C x p')
def R9 (x : Nat) (C A : mA) : Prop := R6 x C A ∧ P9 x C A ∧ T9 x C A ∧ X9 x C
section R9S
variable {C A C9 A9 : mA} {x p N pr i : Nat} {c : Nat → kS} {s : kS}
theorem cS9.cg (h : cS9 C pr i s) (es : sAd C9 pr i = sAd C pr i) (e6 : ∀ k, k < 14 → C9 6 (sAd C pr i) k = C 6 (sAd C pr i) k) (e22 : C9 2 pr 2 = C 2 pr 2) (e24 : C9 2 pr 4 = C 2 pr 4) (e25 : C9 2 pr 5 = C 2 pr 5) (e36 : ∀ j, C9 36 (C 2 pr 2).toNat j = C 36 (C 2 pr 2).toNat j) (e27 : ∀ a j, a = (C 2 pr 4).toNat ∨ a = (C 2 pr 5).toNat → C9 27 a j = C 27 a j) : cS9 C9 pr i s := by
  obtain ⟨a1, a2, a3, a4, a5⟩ := h
  unfold cS9
  rw [es, e6 0 (by decide), e6 1 (by decide), e6 2 (by decide), e6 3 (by decide), e6 4 (by decide), e6 5 (by decide), e6 6 (by decide), e6 9 (by decide), e6 10 (by decide), e6 11 (by decide), e22, e24, e25]
  refine ⟨a1, a2, a3, fun q1 q2 => ?_, fun q => ?_⟩
  · obtain ⟨n, b1, b2, b3, b4⟩ := a4 q1 q2
    exact ⟨n, b1, b2, b3, fun j hj => by rw [e36]; exact b4 j hj⟩
  · obtain ⟨n, b1, b2, b3⟩ := a5 q
    exact ⟨n, b1, b2, fun j hj => by rw [e27 _ _ (Or.inl rfl), e27 _ _ (Or.inr rfl)]; exact b3 j hj⟩
theorem nT_nn {M : mA} {P : Nat} : ∀ {n : Nat} {a : Int} {c : List Int}, nT M P n a c → 0 ≤ a := fun {n a c} h => by
  cases n with
  | zero => exact h.elim
  | succ n => exact h.1
theorem nT_keepR {M M' : mA} {P : Nat} (e : ∀ f j, 43 ≤ f → f ≤ 46 → j < 120 → g32 (M f P j) → M' f P j = M f P j) : ∀ n a c, nT M P n a c → a < 120 → nT M' P n a c := by
  intro n
  induction n with
  | zero => intro a c h _; exact h.elim
  | succ n ih =>
    intro a c h ha
    obtain ⟨h0, h⟩ := h
    have q : ∀ f, 43 ≤ f → f ≤ 46 → g32 (M f P a.toNat) → M' f P a.toNat = M f P a.toNat := fun f h1 h2 h3 => e f _ h1 h2 (by omega) h3
    refine ⟨h0, ?_⟩
    rcases h with ⟨h1, ⟨h2, h3, h4, h5⟩, h6⟩ | ⟨h1, ⟨h2, h3⟩, h4⟩ | ⟨h1, h2, c1, h3, h4, h5⟩ | ⟨h1, h2, c1, c2, h3, h4, h5, h6, h7⟩
    · rw [q 43 (by decide) (by decide) (by rw [h1]; decide), q 44 (by decide) (by decide) (by unfold g32; omega), q 45 (by decide) (by decide) (by rw [h2]; decide), q 46 (by decide) (by decide) (by rw [h3]; decide)]
      exact Or.inl ⟨h1, ⟨h2, h3, h4, h5⟩, h6⟩
    · rw [q 43 (by decide) (by decide) (by rw [h1]; decide), q 44 (by decide) (by decide) (by unfold g32; omega)]
      exact Or.inr (Or.inl ⟨h1, ⟨h2, h3⟩, h4⟩)
    · have n1 := nT_nn h4
      rw [q 43 (by decide) (by decide) (by rw [h1]; decide), q 45 (by decide) (by decide) (by unfold g32; omega), q 46 (by decide) (by decide) (by rw [h2]; decide)]
      exact Or.inr (Or.inr (Or.inl ⟨h1, h2, c1, h3, ih _ _ h4 (by omega), h5⟩))
    · have n1 := nT_nn h5
      have n2 := nT_nn h6
      rw [q 43 (by decide) (by decide) (by unfold g32; omega), q 45 (by decide) (by decide) (by unfold g32; omega), q 46 (by decide) (by decide) (by unfold g32; omega)]
      exact Or.inr (Or.inr (Or.inr ⟨h1, h2, c1, c2, h3, h4, ih _ _ h5 (by omega), ih _ _ h6 (by omega), h7⟩))
/-- what a step's numbers range over -/
def rg9 (i : Nat) (s : kS) : Prop := (0 ≤ sK s ∧ sK s ≤ 5) ∧ (-1 ≤ sN s ∧ sN s ≤ 5) ∧ (-1 ≤ sU s ∧ sU s ≤ 9) ∧ i + sI s ≤ 16 ∧ (sK s = 3 → sO s ≤ sI s) ∧ (sK s = 0 → lotsOk (sL s))
theorem rg9_of (hp : p < 6) (ho : okN p c N) (hx : ∀ i, i < N → okX (c i)) (hi : i < N) : rg9 i (c i) := by
  obtain ⟨⟨hK, hV, hI, h3, h4, h5, h0, hn⟩, h9⟩ := ho.2.2 i hi
  have hN := ho.1
  obtain ⟨x1, x2, x3, x4⟩ := hx i hi
  refine ⟨hK, by omega, ?_, by omega, fun q => (h3 q).2.2.1, fun q => (h0 q).2⟩
  by_cases c0 : sK (c i) = 0
  · obtain ⟨⟨-, k2⟩, k3, k4, -⟩ := h0 c0
    omega
  by_cases c4 : sK (c i) = 4
  · have := (h4 c4).2.1
    omega
  by_cases c5 : sK (c i) = 5
  · have := h5 c5
    omega
  · have := x3 (by omega)
    omega
theorem mS9.cg (h : mS9 A p i s) (hr : rg9 i s) (hi : i < 16) (e : ∀ f j, 34 ≤ f → f ≤ 46 → (f ≤ 40 → j < 16) → j < 120 → g32 (A f p j) → A9 f p j = A f p j) : mS9 A9 p i s := by
  obtain ⟨⟨a1, a2, a3, a4, a5⟩, b, b2, d⟩ := h
  obtain ⟨r1, r2, r3, r4, r5, r6⟩ := hr
  have q : ∀ f v, 34 ≤ f → f ≤ 40 → A f p i = v → -1 ≤ v → v ≤ 200 → A9 f p i = v := fun f v h1 h2 h3 h4 h5 => by
    rw [e f i h1 (by omega) (fun _ => hi) (by omega) (by rw [h3]; unfold g32; omega)]
    exact h3
  refine ⟨⟨q 34 _ (by decide) (by decide) a1 (by omega) (by omega), q 35 _ (by decide) (by decide) a2 (by omega) (by omega), q 36 _ (by decide) (by decide) a3 (by omega) (by omega), q 37 _ (by decide) (by decide) a4 (by omega) (by omega), fun k => q 38 _ (by decide) (by decide) (a5 k) (by omega) (by have := r5 k; omega)⟩, fun q1 q2 => ?_, fun k => q 39 _ (by decide) (by decide) (b2 k) (by decide) (by decide), fun k => ?_⟩
  · obtain ⟨b3, n, b4⟩ := b q1 q2
    have n0 := nT_nn b4
    have e39 := q 39 _ (by decide) (by decide) rfl (by omega) (by omega)
    rw [e39]
    exact ⟨b3, n, nT_keepR (fun f j h1 h2 h3 => e f j (by omega) h2 (fun h4 => by omega) h3) n _ _ b4 b3⟩
  · obtain ⟨n, b3, b4, b5⟩ := d k
    obtain ⟨l1, l2, l3⟩ := r6 k
    refine ⟨n, q 40 _ (by decide) (by decide) b3 (by omega) (by omega), b4, fun j hj => ?_⟩
    obtain ⟨g1, g2⟩ := b5 j hj
    have hm : (sL s).getD j (0, 0) ∈ sL s := by
      rw [List.getD_eq_getElem?_getD, List.getElem?_eq_getElem hj]
      exact List.getElem_mem hj
    have l4 := l3 _ hm
    rw [e 41 _ (by decide) (by decide) (fun h => by omega) (by omega) (by unfold g32; omega), e 42 _ (by decide) (by decide) (fun h => by omega) (by omega) (by unfold g32; omega)]
    exact ⟨g1, g2⟩
abbrev k2s (k : Nat) : Prop := k = 0 ∨ k = 1 ∨ k = 2 ∨ k = 4 ∨ k = 5 ∨ k = 10 ∨ k = 11
theorem pg9.cg (h : pg9 x p C A N c) (hp : p < 6) (ep : ∀ u, u ≤ p → aPr C9 x u = aPr C x u) (e2 : ∀ u, u ≤ p → ∀ k, k2s k → C9 2 (aPr C x u) k = C 2 (aPr C x u) k) (e25 : ∀ j, C9 25 (C 2 (aPr C x p) 0).toNat j = C 25 (C 2 (aPr C x p) 0).toNat j) (e6 : ∀ i, i < 16 → ∀ k, k < 14 → C9 6 (sAd C (aPr C x p) i) k = C 6 (sAd C (aPr C x p) i) k) (e36 : ∀ j, C9 36 (C 2 (aPr C x p) 2).toNat j = C 36 (C 2 (aPr C x p) 2).toNat j) (e27 : ∀ a j, a = (C 2 (aPr C x p) 4).toNat ∨ a = (C 2 (aPr C x p) 5).toNat → C9 27 a j = C 27 a j) (a5 : A9 5 0 p = A 5 0 p) (a67 : ∀ u, u ≤ p → A9 6 0 u = A 6 0 u ∧ A9 7 0 u = A 7 0 u) (eA : ∀ f j, 34 ≤ f → f ≤ 46 → (f ≤ 40 → j < 16) → j < 120 → g32 (A f p j) → A9 f p j = A f p j) : pg9 x p C9 A9 N c := by
  obtain ⟨⟨o1, o2⟩, ⟨u1, u2⟩, ⟨v1, v2⟩, pE, bE, tE, sE, w1, w2, w3, w4, w5, w6⟩ := h
  have hN := o1.1
  have es : ∀ i, sAd C9 (aPr C x p) i = sAd C (aPr C x p) i := fun i => by
    show (C9 25 (C9 2 (aPr C x p) 0).toNat i).toNat = _
    rw [e2 p (Nat.le_refl p) 0 (by decide), e25]
  unfold pg9
  rw [ep p (Nat.le_refl p), e2 p (Nat.le_refl p) 1 (by decide), a5, (a67 p (Nat.le_refl p)).1, (a67 p (Nat.le_refl p)).2, e2 p (Nat.le_refl p) 10 (by decide), e2 p (Nat.le_refl p) 11 (by decide)]
  refine ⟨⟨o1, o2⟩, ⟨u1, fun i hi => (u2 i hi).cg (es i) (fun k hk => e6 i (by omega) k hk) (e2 p (Nat.le_refl p) 2 (by decide)) (e2 p (Nat.le_refl p) 4 (by decide)) (e2 p (Nat.le_refl p) 5 (by decide)) e36 e27⟩, ⟨v1, fun i hi => (v2 i hi).cg (rg9_of hp o1 o2 hi) (by omega) eA⟩, pE, bE, tE, sE, fun u hu => ?_, fun i hi => ?_, w3, w4, w5, w6⟩
  · rw [ep u (by omega), (a67 u (by omega)).1, (a67 u (by omega)).2, e2 u (by omega) 11 (by decide)]
    exact w1 u hu
  · rw [es, e6 i (by omega) 7 (by decide), e6 i (by omega) 8 (by decide), e6 i (by omega) 12 (by decide), e6 i (by omega) 13 (by decide)]
    exact w2 i hi
theorem P9.cg (h3 : R3 x C A) (h : P9 x C A) (k8 : C9 8 x 2 = C 8 x 2) (k21 : ∀ p, C9 21 (aOa C x) p = C 21 (aOa C x) p) (k2 : ∀ p, p < 6 → 0 ≤ C 21 (aOa C x) p → ∀ k, k2s k → C9 2 (aPr C x p) k = C 2 (aPr C x p) k) (k25 : ∀ p, p < 6 → 0 ≤ C 21 (aOa C x) p → ∀ i, C9 25 (C 2 (aPr C x p) 0).toNat i = C 25 (C 2 (aPr C x p) 0).toNat i) (k6 : ∀ p, p < 6 → 0 ≤ C 21 (aOa C x) p → ∀ i, i < 16 → ∀ k, k < 14 → C9 6 (sAd C (aPr C x p) i) k = C 6 (sAd C (aPr C x p) i) k) (k36 : ∀ p, p < 6 → 0 ≤ C 21 (aOa C x) p → ∀ i, C9 36 (C 2 (aPr C x p) 2).toNat i = C 36 (C 2 (aPr C x p) 2).toNat i) (k27 : ∀ p, p < 6 → 0 ≤ C 21 (aOa C x) p → ∀ a j, a = (C 2 (aPr C x p) 4).toNat ∨ a = (C 2 (aPr C x p) 5).toNat → C9 27 a j = C 27 a j) (m0 : A9 0 0 0 ≤ A 0 0 0) (m5 : ∀ p : Nat, (p : Int) < A 0 0 0 → A9 5 0 p = A 5 0 p ∧ A9 6 0 p = A 6 0 p ∧ A9 7 0 p = A 7 0 p) (mE : ∀ p : Nat, (p : Int) < A 0 0 0 → ∀ f j, 34 ≤ f → f ≤ 46 → (f ≤ 40 → j < 16) → j < 120 → g32 (A f p j) → A9 f p j = A f p j) : P9 x C9 A9 := fun p hp => by
  have b3 := h3.2.1.2.2
  have f1 := h3.2.2.2.2.2.1
  have hp9 : (p : Int) < A 0 0 0 := by omega
  have hp6 : p < 6 := by omega
  obtain ⟨N, c, q⟩ := h p hp9
  have eo : aOa C9 x = aOa C x := congrArg Int.toNat k8
  have ex : ∀ u, u ≤ p → u < 6 ∧ 0 ≤ C 21 (aOa C x) u := fun u hu => ⟨by omega, (f1 u (by omega)).1⟩
  obtain ⟨q6, q0⟩ := ex p (Nat.le_refl p)
  exact ⟨N, c, q.cg hp6 (fun u _ => by
    show (C9 21 (aOa C9 x) u).toNat = _
    rw [eo, k21]) (fun u hu k hk => k2 u (ex u hu).1 (ex u hu).2 k hk) (k25 p q6 q0) (k6 p q6 q0) (k36 p q6 q0) (k27 p q6 q0) (m5 p hp9).1 (fun u hu => (m5 u (by omega)).2) (mE p hp9)⟩
theorem T9.cg (h : T9 x C A) (k8 : ∀ k, k = 4 ∨ k = 5 ∨ k = 6 → C9 8 x k = C 8 x k) (m8 : ∀ j, j < 6 → A9 8 0 j = A 8 0 j ∧ A9 10 0 j = A 10 0 j) : T9 x C9 A9 := by
  obtain ⟨h1, h2⟩ := h
  unfold T9
  rw [k8 4 (by decide), k8 5 (by decide), k8 6 (by decide)]
  exact ⟨h1.cg (fun j hj => (m8 j hj).1), h2.imp id (fun q => q.cg (fun j hj => (m8 j hj).2))⟩
theorem xd.cg {C' C1 C1' : mA} {r r' r1 r1' : Nat} (h : xd C r C' r') (e2 : ∀ k, k = 2 ∨ k = 4 ∨ k = 5 ∨ k = 12 → C1 2 r1 k = C 2 r k) (e4 : C1 4 (C 2 r 12).toNat 0 = C 4 (C 2 r 12).toNat 0) (f2 : ∀ k, k = 2 ∨ k = 4 ∨ k = 5 ∨ k = 12 → C1' 2 r1' k = C' 2 r' k) (f4 : C1' 4 (C' 2 r' 12).toNat 0 = C' 4 (C' 2 r' 12).toNat 0) : xd C1 r1 C1' r1' := by
  unfold xd
  rw [e2 2 (by decide), e2 4 (by decide), e2 5 (by decide), e2 12 (by decide), f2 2 (by decide), f2 4 (by decide), f2 5 (by decide), f2 12 (by decide), e4, f4]
  exact h
theorem X9.cg (h : X9 x C) (k8 : C9 8 x 2 = C 8 x 2) (k21 : ∀ p, C9 21 (aOa C x) p = C 21 (aOa C x) p) (k2 : ∀ p, p < 6 → 0 ≤ C 21 (aOa C x) p → ∀ k, k = 2 ∨ k = 4 ∨ k = 5 ∨ k = 12 → C9 2 (aPr C x p) k = C 2 (aPr C x p) k) (k4 : ∀ p, p < 6 → 0 ≤ C 21 (aOa C x) p → C9 4 (C 2 (aPr C x p) 12).toNat 0 = C 4 (C 2 (aPr C x p) 12).toNat 0) : X9 x C9 := fun p p' hp hp' hn q q' => by
  have eo : aOa C9 x = aOa C x := congrArg Int.toNat k8
  have ep : ∀ u, aPr C9 x u = aPr C x u := fun u => by
    show (C9 21 (aOa C9 x) u).toNat = _
    rw [eo, k21]
  rw [eo, k21] at q q'
  rw [ep, ep]
  exact (h p p' hp hp' hn q q').cg (k2 p hp q) (k4 p hp q) (k2 p' hp' q') (k4 p' hp' q')
/-- the places that the relation speaks of -/
def keepU (τ k : Nat) : Bool := match τ with
  | 8 => [0, 1, 2, 3, 4, 5, 6, 7, 8, 10].elem k
  | 2 => [0, 1, 2, 4, 5, 8, 9, 10, 11, 12].elem k
  | 4 => [0, 1, 2].elem k
  | 6 => Nat.ble k 13
  | 20 => true
  | 21 => true
  | 22 => true
  | 25 => true
  | 27 => true
  | 36 => true
  | _ => false
theorem keepS_U {τ k : Nat} (h : keepS τ k = true) : keepU τ k = true := by
  unfold keepS at h
  split at h
  · have := List.elem_iff.mp h
    simp only [List.mem_cons, List.not_mem_nil, or_false] at this
    rcases this with rfl | rfl | rfl | rfl | rfl | rfl <;> rfl
  · have := List.elem_iff.mp h
    simp only [List.mem_cons, List.not_mem_nil, or_false] at this
    rcases this with rfl | rfl | rfl | rfl | rfl | rfl | rfl | rfl <;> rfl
  · have := List.elem_iff.mp h
    simp only [List.mem_cons, List.not_mem_nil, or_false] at this
    rcases this with rfl | rfl | rfl | rfl | rfl | rfl <;> rfl
  · rfl
  · rfl
  · rfl
  · cases h
section R9K
variable {D : va_G} {G : tG} {w w' : jW} {ad : mAd}
theorem hg_co (hw : hW D G C w) {pr : Nat} (hp : G pr = some 2) : G (C 2 pr 2).toNat = some 36 ∧ G (C 2 pr 4).toNat = some 27 ∧ G (C 2 pr 5).toNat = some 27 := by
  obtain ⟨V, -, h⟩ := (hcell_O (rfl : tyO 2 = some (2, _))).mp (hw pr 2 hp)
  exact ⟨(hv4 (τ' := 36) rfl rfl (h 2 _ rfl)).2, (hv4 (τ' := 27) rfl rfl (h 4 _ rfl)).2, (hv4 (τ' := 27) rfl rfl (h 5 _ rfl)).2⟩
theorem hg_ru (hw : hW D G C w) {pr : Nat} (hp : G pr = some 2) : G (C 2 pr 12).toNat = some 4 := by
  obtain ⟨V, -, h⟩ := (hcell_O (rfl : tyO 2 = some (2, _))).mp (hw pr 2 hp)
  exact (hv4 (τ' := 4) rfl rfl (h 12 _ rfl)).2
theorem k2s_U {k : Nat} (h : k2s k) : keepU 2 k = true := by
  rcases h with rfl | rfl | rfl | rfl | rfl | rfl | rfl <;> rfl
theorem P9.keepC (hw : hW D G C w) (hx : G x = some 8) (h3 : R3 x C A) (h : P9 x C A) (hk : ∀ τ a k, G a = some τ → keepU τ k = true → C9 τ a k = C τ a k) (m0 : A9 0 0 0 ≤ A 0 0 0) (m5 : ∀ p : Nat, (p : Int) < A 0 0 0 → A9 5 0 p = A 5 0 p ∧ A9 6 0 p = A 6 0 p ∧ A9 7 0 p = A 7 0 p) (mE : ∀ p : Nat, (p : Int) < A 0 0 0 → ∀ f j, 34 ≤ f → f ≤ 46 → (f ≤ 40 → j < 16) → j < 120 → g32 (A f p j) → A9 f p j = A f p j) : P9 x C9 A9 := h.cg h3 (hk 8 x 2 hx rfl) (fun p => hk 21 _ p (hg_oa hw hx) rfl) (fun p hp q k hk2 => hk 2 _ k (hg_pr hw hx hp q) (k2s_U hk2)) (fun p hp q i => hk 25 _ i (hg_sa hw (hg_pr hw hx hp q)) rfl) (fun p hp q i hi k hk2 => hk 6 _ k (hg_st hw (hg_pr hw hx hp q) hi) (Nat.ble_eq_true_of_le (by omega))) (fun p hp q i => hk 36 _ i (hg_co hw (hg_pr hw hx hp q)).1 rfl) (fun p hp q a j ha => hk 27 a j (by
  obtain ⟨-, g4, g5⟩ := hg_co hw (hg_pr hw hx hp q)
  rcases ha with rfl | rfl
  · exact g4
  · exact g5) rfl) m0 m5 mE
/-- the class's side changes where it isn't spoken of, the reference's not at all -/
theorem R9.keepC (hw : hW D G C w) (hx : G x = some 8) (h : R9 x C A) (hk : ∀ τ a k, G a = some τ → keepU τ k = true → C9 τ a k = C τ a k) : R9 x C9 A := ⟨R6.keep hw hx h.1 (fun τ a k g q => hk τ a k g (keepS_U q)) ⟨rfl, rfl, rfl⟩ (fun _ _ => rfl) (fun _ _ => ⟨rfl, rfl⟩) (fun _ => rfl) (fun _ _ => rfl), h.2.1.keepC hw hx h.1.1 hk (Int.le_refl _) (fun _ _ => ⟨rfl, rfl, rfl⟩) (fun _ _ _ _ _ _ _ _ _ => rfl), h.2.2.1.cg (fun k hk2 => hk 8 x k hx (by rcases hk2 with rfl | rfl | rfl <;> rfl)) (fun _ _ => ⟨rfl, rfl⟩), h.2.2.2.cg (hk 8 x 2 hx rfl) (fun p => hk 21 _ p (hg_oa hw hx) rfl) (fun p hp q k hk2 => hk 2 _ k (hg_pr hw hx hp q) (by rcases hk2 with rfl | rfl | rfl | rfl <;> rfl)) (fun p hp q => hk 4 _ 0 (hg_ru hw (hg_pr hw hx hp q)) rfl)⟩
/-- the reference's side changes where it isn't spoken of -/
theorem R9.cA (h : R9 x C A) (h0 : A9 0 0 0 = A 0 0 0 ∧ A9 0 0 22 = A 0 0 22 ∧ A9 0 0 37 = A 0 0 37) (h9 : ∀ j, j < 120 → A9 9 0 j = A 9 0 j) (h8 : ∀ j, j < 6 → A9 8 0 j = A 8 0 j ∧ A9 10 0 j = A 10 0 j) (h5 : ∀ p : Nat, (p : Int) < A 0 0 0 → A9 5 0 p = A 5 0 p ∧ A9 6 0 p = A 6 0 p ∧ A9 7 0 p = A 7 0 p) (h34 : ∀ p : Nat, (p : Int) < A 0 0 0 → ∀ f j, 34 ≤ f → f ≤ 46 → (f ≤ 40 → j < 16) → j < 120 → g32 (A f p j) → A9 f p j = A f p j) : R9 x C A9 := by
  obtain ⟨h6, hp, ht, hX⟩ := h
  have b3 := h6.1.2.1.2.2
  refine ⟨h6.cA h0 h9 (fun p q => (h5 p q).2) (fun p q => (h5 p q).1) (fun p q i hi => ?_), hp.cg h6.1 rfl (fun _ => rfl) (fun _ _ _ _ _ => rfl) (fun _ _ _ _ => rfl) (fun _ _ _ _ _ _ _ => rfl) (fun _ _ _ _ => rfl) (fun _ _ _ _ _ _ => rfl) (by rw [h0.1]; exact Int.le_refl _) h5 h34, ht.cg (fun _ _ => rfl) h8, hX⟩
  obtain ⟨-, u2, u3⟩ := h6.2.1 p q
  have u4 := (u3 i hi).2
  exact h34 p q 34 i (by decide) (by decide) (fun _ => by omega) (by omega) (by unfold g32; omega)
theorem mty_r {f j : Nat} (h1 : 34 ≤ f) (h2 : f ≤ 46) : -1 ≤ (mty f j).1 ∧ (mty f j).2 ≤ 255 := by
  have c : f = 34 ∨ f = 35 ∨ f = 36 ∨ f = 37 ∨ f = 38 ∨ f = 39 ∨ f = 40 ∨ f = 41 ∨ f = 42 ∨ f = 43 ∨ f = 44 ∨ f = 45 ∨ f = 46 := by omega
  have e : mty f j = mty f 0 := by rcases c with rfl | rfl | rfl | rfl | rfl | rfl | rfl | rfl | rfl | rfl | rfl | rfl | rfl <;> rfl
  rw [e]
  rcases c with rfl | rfl | rfl | rfl | rfl | rfl | rfl | rfl | rfl | rfl | rfl | rfl | rfl <;> decide
theorem m_jR (hp : p < 6) {f j : Nat} (h1 : 34 ≤ f) (h2 : f ≤ 46) (hj1 : f ≤ 40 → j < 16) (hj2 : j < 120) (h : mW D ad A w) (h' : mW D ad A9 w') (hj : jAg D w w') : Int32.ofInt (A f p j) = Int32.ofInt (A9 f p j) := by
  by_cases c40 : f ≤ 40
  · have hj3 := hj1 c40
    have c : f = 34 ∨ f = 35 ∨ f = 36 ∨ f = 37 ∨ f = 38 ∨ f = 39 ∨ f = 40 := by omega
    rcases c with rfl | rfl | rfl | rfl | rfl | rfl | rfl <;> exact m_jIk (c := 6) (n := 16) rfl hp h h' hj hj3
  · have c : f = 41 ∨ f = 42 ∨ f = 43 ∨ f = 44 ∨ f = 45 ∨ f = 46 := by omega
    rcases c with rfl | rfl | rfl | rfl | rfl | rfl <;> exact m_jIk (c := 6) (n := 120) rfl hp h h' hj hj2
theorem R9.jA (h : R9 x C A9) (hT : mTy A) (hm : mW D ad A w) (hm' : mW D ad A9 w') (hj : jAg D w w') : R9 x C A := by
  have k := h.1.jA hT hm hm' hj
  obtain ⟨h6, hp, ht, hX⟩ := h
  have b3 := h6.1.2.1.2.2
  have e0 : A 0 0 0 = A9 0 0 0 := k.1.2.1.1.symm.trans h6.1.2.1.1
  have e8 : ∀ {s : Int} {d d' : Nat → Int}, st9 s d → (∀ j, j < 6 → Int32.ofInt (d' j) = Int32.ofInt (d j)) → (∀ j, 0 ≤ d' j ∧ d' j ≤ 9) → ∀ j, j < 6 → d' j = d j := fun {s d d'} q q2 q3 j hj => i32_inj (q2 j hj) (by have := q3 j; omega) (by have := (q.2 j hj).2; omega)
  refine ⟨k, hp.cg h6.1 rfl (fun _ => rfl) (fun _ _ _ _ _ => rfl) (fun _ _ _ _ => rfl) (fun _ _ _ _ _ _ _ => rfl) (fun _ _ _ _ => rfl) (fun _ _ _ _ _ _ => rfl) (by rw [e0]; exact Int.le_refl _) (fun p q => ?_) (fun p q f j h1 h2 h3 h4 h5 => ?_), ?_, hX⟩
  · have q9 : (p : Int) < A 0 0 0 := by omega
    obtain ⟨-, w8, w9, -⟩ := k.1.2.2.2.2.2.1 p q9
    obtain ⟨-, v8, v9, -⟩ := h6.1.2.2.2.2.2.1 p q
    obtain ⟨y1, -, -⟩ := k.2.1 p q9
    obtain ⟨z1, -, -⟩ := h6.2.1 p q
    exact ⟨y1.symm.trans z1, w8.symm.trans v8, w9.symm.trans v9⟩
  · have t := hT f p j
    have r := mty_r (j := j) h1 h2
    exact i32_inj (m_jR (by omega) h1 h2 h3 h4 hm hm' hj) (by omega) h5
  · obtain ⟨t1, t2⟩ := ht
    have r8 : ∀ j, 0 ≤ A 8 0 j ∧ A 8 0 j ≤ 9 := fun j => hT 8 0 j
    have r10 : ∀ j, 0 ≤ A 10 0 j ∧ A 10 0 j ≤ 9 := fun j => hT 10 0 j
    refine ⟨t1.cg (e8 t1 (fun j q => m_jI (f := 8) (n := 6) rfl (by decide) hm hm' hj q) r8), t2.imp id (fun t3 => t3.cg (e8 t3 (fun j q => m_jI (f := 10) (n := 6) rfl (by decide) hm hm' hj q) r10))⟩
end R9K
end R9S
