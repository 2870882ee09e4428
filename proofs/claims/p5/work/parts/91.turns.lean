/-! the reference: what blocks made and programs told rest on (own work) -/
def dQ (dep : Nat → Int) (a b d : Int) : Prop := ∀ j : Nat, a ≤ j → (j : Int) < b → d ≤ dep j
theorem dQ.at {dep : Nat → Int} {a b d : Int} (h : dQ dep a b d) {i : Int} (h0 : 0 ≤ i) (h1 : a ≤ i) (h2 : i < b) : d ≤ dep i.toNat := h i.toNat (by omega) (by omega)
theorem sG.dp {P i : Nat} {A : mA} {N M Ln : Int} {dep : Nat → Int} (h : sG P A N M Ln dep i) : 0 ≤ dep i ∧ dep i ≤ 4 := h.2.2.2.2.2.2.2.2.1
theorem sG.dQ {P i : Nat} {A : mA} {N M Ln a b : Int} {dep : Nat → Int} (h : sG P A N M Ln dep i) (k : A 34 P i = 3 ∨ A 34 P i = 4) (ha : (i : Int) + 1 ≤ a) (hb : b ≤ A 37 P i) : dQ dep a b (dep i + 1) := fun j h1 h2 => by
  have := h.2.2.2.2.2.2.2.2.2 k j (by omega) (by omega)
  omega
theorem pK.dQ0 {P : Nat} {A : mA} {N M Ln b : Int} {dep : Nat → Int} (h : pK A P N M Ln dep) (hb : b ≤ N) : dQ dep 0 b 0 := fun j _ h2 => (h.2.2.2.1 j (by omega)).dp.1
def xQ (A : mA) (x : Int) : Prop := A 0 0 34 = 0 → A 0 0 33 = x
theorem mS.muf {A : mA} {f k j : Nat} {z : Int} (h : mS A) (hf : ¬ 51 = f) : mS (mu A f k j z) := h.eq (fun _ => mu_fk A j z (fun q => hf q.1))
theorem oG.muf {A : mA} {k f k2 j : Nat} {z T : Int} (h : oG A k T) (h1 : ¬ 1 = f) (h4 : ¬ 4 = f) : oG (mu A f k2 j z) k T := h.eq (mu_ne A z (fun q => h1 q.1)) (mu_fk A j z (fun q => h4 q.1))
theorem oG.rmk {A A9 : mA} {k u : Nat} {T : Int} (h : oG A k T) (q : mEq (rm u) A A9) (hk : k < u) : oG A9 k T := h.eq (q 1 k 2 (rm_lo hk (Or.inl rfl) 2)) (funext fun j => q 4 k j (rm_lo hk (Or.inr (Or.inr rfl)) j))
theorem oG.dmk {A A9 : mA} {k u : Nat} {T : Int} (h : oG A k T) (q : mEq (dm u) A A9) (hk : k < u) : oG A9 k T := h.eq (q 1 k 2 (dm_lo hk (by decide) 2)) (funext fun j => q 4 k j (dm_lo hk (by decide) j))
theorem tk_ne {u k f : Nat} (h : ¬ k = u) (hf : ¬ f = 0) (j : Nat) : tkm u f k j = false := by
  unfold tkm
  have e1 : (f == 0) = false := by simp [hf]
  have e2 : (k == u) = false := by simp [h]
  rw [e1, e2]
  simp
theorem oG.tkk {A A9 : mA} {k u : Nat} {T : Int} (h : oG A k T) (q : mEq (tkm u) A A9) (hk : ¬ k = u) : oG A9 k T := h.eq (q 1 k 2 (tk_ne hk (by decide) 2)) (funext fun j => q 4 k j (tk_ne hk (by decide) j))
/-- the weights of those that are so, or are not -/
def tsM (A : mA) (P i k : Nat) (so : Int) : Int := ws (sw1 A P (A 39 P i).toNat k so) 0 (A 1 k 2).toNat
theorem tS_rmk {A A9 : mA} {u P i k : Nat} {so : Int} (q : mEq (rm u) A A9) (hk : k < u) : tsM A9 P i k so = tsM A P i k so := by
  have e1 : A9 1 k 2 = A 1 k 2 := q 1 k 2 (rm_lo hk (Or.inl rfl) 2)
  have e3 : A9 3 k = A 3 k := funext fun j => q 3 k j (rm_lo hk (Or.inr (Or.inl rfl)) j)
  have e4 : A9 4 k = A 4 k := funext fun j => q 4 k j (rm_lo hk (Or.inr (Or.inr rfl)) j)
  have e39 : A9 39 P i = A 39 P i := q 39 P i (rm_far (by decide) (by decide) i)
  have ew : ∀ s n e, wv A9 P s n e = wv A P s n e := wv_fam (fun f h1 h2 => funext fun j => q f P j (rm_far (by omega) h2 j))
  unfold tsM
  rw [e39, e1]
  exact ws_congr _ (fun v _ _ => by unfold sw1; rw [e3, e4, ew])
theorem tS_sum {A : mA} {P i k : Nat} {T : Int} (h : oG A k T) (hm : 0 ≤ A 1 k 2) : 0 ≤ tsM A P i k 1 ∧ 0 ≤ tsM A P i k 0 ∧ tsM A P i k 1 + tsM A P i k 0 ≤ T := by
  have b := sw_both A P (A 39 P i).toNat k (A 1 k 2).toNat
  have n : ∀ so : Int, 0 ≤ ws (sw1 A P (A 39 P i).toNat k so) 0 (A 1 k 2).toNat := fun so => (sw_rng (fun v hv => by have := h.1 v (by omega); omega)).1
  have n1 := n 1
  have n0 := n 0
  have h2 := h.2
  unfold tsM
  exact ⟨n1, n0, by omega⟩
/-- what is made of one program at one digit -/
def mdm (f _k _j : Nat) : Bool := f == 51
theorem mdm_rm {u : Nat} : ∀ f k j, rm u f k j = false → mdm f k j = false := fun f k j h => by
  unfold rm at h
  simp only [Bool.or_eq_false_iff] at h
  exact h.2.2.2.2
def rO (A : mA) (c : Nat) : Prop := ∀ c2, c2 ≠ c → (∀ v, v < 10 → 0 ≤ A 51 c2 v) ∧ ws (A 51 c2) 0 10 ≤ 1125899906842624
def rZ (A : mA) (c : Nat) (j : Int) : Prop := ∀ v : Nat, (v : Int) < j → A 51 c v = 0
def rT (A : mA) (c : Nat) (T : Int) : Prop := (∀ v, v < 10 → 0 ≤ A 51 c v) ∧ ws (A 51 c) 0 10 ≤ T
theorem rO.of {A : mA} (h : mS A) (c : Nat) : rO A c := fun c2 _ => h c2
theorem rO.mu {A : mA} {c j : Nat} {z : Int} (h : rO A c) : rO (mu A 51 c j z) c := fun c2 h2 => by
  rw [mu_fk A j z (fun q => h2 q.2)]
  exact h c2 h2
theorem rZ.none {A : mA} {c : Nat} : rZ A c 0 := fun v hv => absurd hv (by omega)
theorem rZ.mu {A : mA} {c : Nat} {j : Int} (h : rZ A c j) : rZ (mu A 51 c j.toNat 0) c (j + 1) := fun v hv => by
  by_cases e : v = j.toNat
  · subst e; exact mu_at _ _ _ _ _
  · rw [mu_ne _ _ (fun q => e q.2.2)]
    exact h v (by omega)
theorem ws_zero {w : Nat → Int} : ∀ n : Nat, (∀ v, v < n → w v = 0) → ws w 0 n = 0
  | 0, _ => rfl
  | n + 1, h => by
    show ws w 0 n + w (0 + n) = 0
    rw [Nat.zero_add, ws_zero n (fun v hv => h v (by omega)), h n (by omega)]
    rfl
theorem rZ.all {A : mA} {c : Nat} {j : Int} (h : rZ A c j) (hj : j = 10) : rT A c 0 := by
  have k : ∀ v, v < 10 → A 51 c v = 0 := fun v hv => h v (by omega)
  exact ⟨fun v hv => by rw [k v hv]; exact Int.le_refl _, by rw [ws_zero 10 k]; exact Int.le_refl _⟩
theorem ws_e0 {w : Nat → Int} : ∀ n : Nat, (∀ v, v < n → 0 ≤ w v) → 0 ≤ ws w 0 n ∧ ∀ v, v < n → w v ≤ ws w 0 n
  | 0, _ => ⟨Int.le_refl _, fun v hv => absurd hv (by omega)⟩
  | n + 1, h => by
    have ih := ws_e0 n (fun v hv => h v (by omega))
    have hn := h n (by omega)
    show 0 ≤ ws w 0 n + w (0 + n) ∧ ∀ v, v < n + 1 → w v ≤ ws w 0 n + w (0 + n)
    rw [Nat.zero_add]
    refine ⟨by omega, fun v hv => ?_⟩
    by_cases c : v = n
    · subst c; omega
    · have := ih.2 v (by omega)
      omega
theorem rT.el {A : mA} {c v : Nat} {T : Int} (h : rT A c T) (hv : v < 10) : 0 ≤ A 51 c v ∧ A 51 c v ≤ T := by
  have h1 := (ws_e0 (w := A 51 c) 10 h.1).2 v hv
  have h2 := h.2
  exact ⟨h.1 v hv, by omega⟩
theorem rT.add {A : mA} {c v : Nat} {T y w : Int} (h : rT A c T) (hv : v < 10) (hy : A 51 c v = y) (hw : 0 ≤ w) : rT (mu A 51 c v (y + w)) c (T + w) := by
  have e1 : ∀ x, x ≠ v → mu A 51 c v (y + w) 51 c x = A 51 c x := fun x hx => mu_ne _ _ (fun q => hx q.2.2)
  have e2 : mu A 51 c v (y + w) 51 c v = A 51 c v + w := by rw [mu_at, hy]
  refine ⟨fun x hx => ?_, ?_⟩
  · by_cases d : x = v
    · subst d
      rw [e2]
      have := h.1 x hx
      omega
    · rw [e1 x d]
      exact h.1 x hx
  · rw [ws_up e1 e2, if_pos hv]
    have := h.2
    omega
theorem rT.mS {A : mA} {c : Nat} {T : Int} (h : rT A c T) (o : rO A c) (hT : T ≤ 1125899906842624) : mS A := fun c2 => by
  by_cases e : c2 = c
  · subst e
    exact ⟨h.1, by have := h.2; omega⟩
  · exact o c2 e
/-- the weights of one that is run on -/
theorem ru_ok {s t w x R R1 : Int} (h : s * 1125899906842624 ≤ w * R) (k : t * 1125899906842624 ≤ w * x) (e : R1 = R + x) : (s + t) * 1125899906842624 ≤ w * R1 := by
  rw [e, Int.add_mul, Int.mul_add]
  omega
theorem ru_le {s w R : Int} (h : s * 1125899906842624 ≤ w * R) (hR : R ≤ 1125899906842624) (hw : 0 ≤ w) : s ≤ w := by
  have := Int.mul_le_mul_of_nonneg_left hR hw
  omega
