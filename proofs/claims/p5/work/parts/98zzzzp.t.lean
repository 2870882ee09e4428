/-! odds of the reference: what is kept through a walk (own work) -/
def mTab (T : xT) (cnt : Nat) (A : mA) : Prop := ∀ p : Nat, p < cnt → A 5 0 p = ((T p).1 : Int) ∧ ∀ i, i < (T p).1 → mS9 A p i ((T p).2 i)
/-- what was told of a run is right -/
def mCa (T : xT) (cnt : Nat) (A : mA) : Prop := ∀ p : Nat, p < cnt → ∀ d : Nat, d < 10 → A 47 p d = 0 ∨ (A 47 p d = 1 ∧ ((A 48 p d = 1 ∧ sRn T 40 p d = none ∧ ∀ v : Nat, v < 10 → A 51 (p * 10 + d) v = 0) ∨ (A 48 p d = 0 ∧ ∃ R, sRn T 40 p d = some R ∧ ∀ v : Nat, v < 10 → A 51 (p * 10 + d) v = xw R ((v : Nat) : Int))))
/-- what a walk may change -/
def mkF (u : Nat) (A A' : mA) : Prop := ∀ f a j, ¬ ((f = 0 ∧ a = 0 ∧ (j = 33 ∨ j = 34 ∨ j = 35)) ∨ ((f = 1 ∨ f = 3 ∨ f = 4) ∧ u ≤ a) ∨ f = 47 ∨ f = 48 ∨ f = 51) → A' f a j = A f a j
theorem mkF.refl {u : Nat} {A : mA} : mkF u A A := fun _ _ _ _ => rfl
theorem mkF.trans {u : Nat} {A A' A'' : mA} (h : mkF u A A') (h' : mkF u A' A'') : mkF u A A'' := fun f a j q => (h' f a j q).trans (h f a j q)
theorem mkF.up {u u' : Nat} {A A' : mA} (h : mkF u' A A') (hu : u ≤ u') : mkF u A A' := fun f a j q => h f a j (by omega)
theorem mkF.p {u : Nat} {A A' : mA} (h : pF u A A') : mkF u A A' := fun f a j q => h f a j (by omega)
theorem mkF.r {u k : Nat} {A A' : mA} (h : rOd A A' k) (hu : u ≤ k) : mkF u A A' := fun f a j q => h f a j (by omega)
theorem mkF.t {u P D : Nat} {A A' : mA} (h : telF P D A A') : mkF u A A' := fun f a j q => h f a j (by omega)
theorem mkF.oC {u k : Nat} {A A' : mA} (h : mkF u A A') (hk : k < u) : oC A' k = oC A k := oC_cg (h 1 k 2 (by omega)) (fun j _ => ⟨h 3 k j (by omega), h 4 k j (by omega)⟩)
theorem mkF.oQ {u k : Nat} {A A' : mA} (h : mkF u A A') (hk : k < u) (q : oQ A k) : oQ A' k := ⟨by rw [h 1 k 2 (by omega)]; exact q.1, by rw [h.oC hk]; exact q.2.1, by rw [h.oC hk]; exact q.2.2⟩
section MKK
variable {T : xT} {b : Int → Int} {cnt u : Nat} {A A' : mA}
theorem mTab.fr (h : mTab T cnt A) (hT : TB T b cnt) (hf : mkF u A A') : mTab T cnt A' := fun p hp => by
  obtain ⟨h1, h2⟩ := h p hp
  obtain ⟨ho, hx, -⟩ := hT.2 p hp
  have := hT.1
  refine ⟨by rw [hf 5 0 p (by omega)]; exact h1, fun i hi => ?_⟩
  have := ho.1
  exact (h2 i hi).fr (rg9_of (by omega) ho hx hi) (by omega) (fun f j q1 q2 => hf f p j (by omega))
theorem mCa.p (h : mCa T cnt A) (hf : pF u A A') : mCa T cnt A' := fun p hp d hd => by
  rw [hf 47 p d (by omega), hf 48 p d (by omega)]
  rcases h p hp d hd with q | ⟨q1, ⟨q2, q3, q4⟩ | ⟨q2, R, q3, q4⟩⟩
  · exact Or.inl q
  · exact Or.inr ⟨q1, Or.inl ⟨q2, q3, fun v hv => by rw [hf 51 _ v (by omega)]; exact q4 v hv⟩⟩
  · exact Or.inr ⟨q1, Or.inr ⟨q2, R, q3, fun v hv => by rw [hf 51 _ v (by omega)]; exact q4 v hv⟩⟩
theorem mCa.cg (h : mCa T cnt A) (e : ∀ f a j, f = 47 ∨ f = 48 ∨ f = 51 → A' f a j = A f a j) : mCa T cnt A' := fun p hp d hd => by
  rw [e 47 p d (by omega), e 48 p d (by omega)]
  rcases h p hp d hd with q | ⟨q1, ⟨q2, q3, q4⟩ | ⟨q2, R, q3, q4⟩⟩
  · exact Or.inl q
  · exact Or.inr ⟨q1, Or.inl ⟨q2, q3, fun v hv => by rw [e 51 _ v (by omega)]; exact q4 v hv⟩⟩
  · exact Or.inr ⟨q1, Or.inr ⟨q2, R, q3, fun v hv => by rw [e 51 _ v (by omega)]; exact q4 v hv⟩⟩
/-- one more run is told -/
theorem mCa.tel {P D : Nat} (h : mCa T cnt A) (hD : D < 10) (hf : telF P D A A') (h47 : A' 47 P D = 1) (hr : (A' 48 P D = 1 ∧ sRn T 40 P D = none ∧ ∀ v : Nat, v < 10 → A' 51 (P * 10 + D) v = 0) ∨ (A' 48 P D = 0 ∧ ∃ R, sRn T 40 P D = some R ∧ ∀ v : Nat, v < 10 → A' 51 (P * 10 + D) v = xw R ((v : Nat) : Int))) : mCa T cnt A' := fun p hp d hd => by
  by_cases k : p = P ∧ d = D
  · obtain ⟨rfl, rfl⟩ := k
    exact Or.inr ⟨h47, hr⟩
  · rw [hf 47 p d (by omega), hf 48 p d (by omega)]
    rcases h p hp d hd with q | ⟨q1, ⟨q2, q3, q4⟩ | ⟨q2, R, q3, q4⟩⟩
    · exact Or.inl q
    · exact Or.inr ⟨q1, Or.inl ⟨q2, q3, fun v hv => by rw [hf 51 _ v (by omega)]; exact q4 v hv⟩⟩
    · exact Or.inr ⟨q1, Or.inr ⟨q2, R, q3, fun v hv => by rw [hf 51 _ v (by omega)]; exact q4 v hv⟩⟩
end MKK
/-- what the reference's odds o of memory A' say of the spec's answer s -/
def mkR (A' : mA) (o : Nat) (s : Option (List xE)) : Prop := oQ A' o ∧ ((A' 0 0 34 = 0 ∧ ∃ l, s = some l ∧ (oC A' o).Perm l ∧ (oC A' o).length ≤ 300) ∨ (A' 0 0 34 = 1 ∧ s = none))
/-- odds that a step may ask for, of the pool -/
def pB (P : Nat) (lv : Int) : Nat := 19 * P + 4 * (4 - lv).toNat + 1
/-- what may be left in use where it is WIDE -/
def pWi (lv : Int) : Nat := 4 * (4 - lv).toNat + 1
/-- a walk over a block, at a fuel: the statement that goes by induction -/
def MKs (T : xT) (b : Int → Int) (cnt : Nat) (mk : mA → Int → Int → Int → Nat → Int → Option (Int × mA)) (n : Nat) : Prop :=
  ∀ (P a e x u : Nat) (lv B : Int) (A : mA) (l : List xE), P < cnt → tl (T P).2 lv 16 a e → e ≤ (T P).1 → 0 ≤ lv → dep P lv < n → mTab T cnt A → mCa T cnt A → A 0 0 33 = u → u + 1 + pB P lv ≤ 195 → x < u → oQ A x → (oC A x).Perm l → l.length ≤ 300 → 0 ≤ B → gdL B l → B + tsm (gv (Fb (T P).2 b) 16) (T P).2 16 a e ≤ 50 → A 0 0 34 = 0 → g32 (A 0 0 35) →
    ∃ A', mk A P a e x (-1) = some ((u : Int), A') ∧ mkF u A A' ∧ mCa T cnt A' ∧ g32 (A' 0 0 35) ∧ mkR A' u (sBk (sSt T 40 P) (T P).2 17 a e l) ∧ (A' 0 0 34 = 0 → A' 0 0 33 = ((u + 1 : Nat) : Int)) ∧ (A' 0 0 34 = 1 → 0 ≤ A' 0 0 33 ∧ A' 0 0 33 ≤ ((u + 1 + pWi lv : Nat) : Int))
