/-! the reference: steps (own work) -/
def ws (w : Nat → Int) (fl : Nat) : Nat → Int
  | 0 => 0
  | n + 1 => ws w fl n + w (fl + n)
theorem ws_congr {w w' : Nat → Int} {fl : Nat} : ∀ n : Nat, (∀ k, fl ≤ k → k < fl + n → w' k = w k) → ws w' fl n = ws w fl n
  | 0, _ => rfl
  | n + 1, h => by
    unfold ws
    rw [ws_congr n (fun k h1 h2 => h k h1 (by omega)), h (fl + n) (by omega) (by omega)]
/-- rows of P below these bounds are the same -/
def pQ (P : Nat) (s t n : Int) (A A9 : mA) : Prop := (∀ f, 34 ≤ f → f ≤ 40 → ∀ j : Nat, (j : Int) < s → A9 f P j = A f P j) ∧ (∀ f, 41 ≤ f → f ≤ 42 → ∀ j : Nat, (j : Int) < t → A9 f P j = A f P j) ∧ ∀ f, 43 ≤ f → f ≤ 46 → ∀ j : Nat, (j : Int) < n → A9 f P j = A f P j
theorem pQ.rfl' {P : Nat} {s t n : Int} {A : mA} : pQ P s t n A A := ⟨fun _ _ _ _ _ => rfl, fun _ _ _ _ _ => rfl, fun _ _ _ _ _ => rfl⟩
theorem pQ.trans {P : Nat} {s t n : Int} {A A2 A3 : mA} (h : pQ P s t n A A2) (k : pQ P s t n A2 A3) : pQ P s t n A A3 := ⟨fun f h1 h2 j hj => (k.1 f h1 h2 j hj).trans (h.1 f h1 h2 j hj), fun f h1 h2 j hj => (k.2.1 f h1 h2 j hj).trans (h.2.1 f h1 h2 j hj), fun f h1 h2 j hj => (k.2.2 f h1 h2 j hj).trans (h.2.2 f h1 h2 j hj)⟩
theorem pQ.le {P : Nat} {s t n s' t' n' : Int} {A A9 : mA} (h : pQ P s t n A A9) (h1 : s' ≤ s) (h2 : t' ≤ t) (h3 : n' ≤ n) : pQ P s' t' n' A A9 := ⟨fun f a b j hj => h.1 f a b j (by omega), fun f a b j hj => h.2.1 f a b j (by omega), fun f a b j hj => h.2.2 f a b j (by omega)⟩
theorem pQ.fam {P : Nat} {s t n : Int} {A A2 A9 : mA} (h : pQ P s t n A A2) (k : ∀ f, 34 ≤ f → A9 f P = A2 f P) : pQ P s t n A A9 := ⟨fun f a b j hj => by rw [k f a]; exact h.1 f a b j hj, fun f a b j hj => by rw [k f (by omega)]; exact h.2.1 f a b j hj, fun f a b j hj => by rw [k f (by omega)]; exact h.2.2 f a b j hj⟩
theorem fam_0 (A : mA) (P j : Nat) (z : Int) : ∀ f, 34 ≤ f → mu A 0 0 j z f P = A f P := fun f hf => mu_fk A j z (fun q => by omega)
theorem fam_nm {A A9 : mA} (P : Nat) (h : mEq nm A A9) : ∀ f, 34 ≤ f → A9 f P = A f P := fun f hf => funext fun j => h f P j (by
  unfold nm
  have : (f == 0) = false := by simp; omega
  rw [this]; rfl)
theorem pQ.emk {P : Nat} {s t n : Int} {A A2 A9 : mA} (h : pQ P s t n A A2) (k : mEq (em P) A2 A9) (q : nK P A2 A9) (hn : n ≤ A2 0 0 30) : pQ P s t n A A9 := by
  have key : ∀ f, 34 ≤ f → f ≤ 42 → ∀ j, A9 f P j = A2 f P j := fun f h1 h2 j => k f P j (by
    unfold em
    have a1 : (f == 0) = false := by simp; omega
    have a2 : Nat.ble 43 f = false := by cases e : Nat.ble 43 f with
      | true => exact absurd (Nat.ble_eq.mp e) (by omega)
      | false => rfl
    rw [a1, a2]; rfl)
  refine ⟨fun f a b j hj => (key f a (by omega) j).trans (h.1 f a b j hj), fun f a b j hj => (key f (by omega) b j).trans (h.2.1 f a b j hj), fun f a b j hj => ?_⟩
  obtain ⟨b1, b2, b3, b4⟩ := q j (by omega)
  refine Eq.trans ?_ (h.2.2 f a b j hj)
  have : f = 43 ∨ f = 44 ∨ f = 45 ∨ f = 46 := by omega
  rcases this with rfl | rfl | rfl | rfl
  · exact b1
  · exact b2
  · exact b3
  · exact b4
theorem pQ.mu {P : Nat} {s t n : Int} {A A2 : mA} (h : pQ P s t n A A2) {f j : Nat} {z : Int} (h1 : f ≤ 40 → s ≤ (j : Int)) (h2 : 41 ≤ f → f ≤ 42 → t ≤ (j : Int)) (h3 : 43 ≤ f → n ≤ (j : Int)) : pQ P s t n A (mu A2 f P j z) := ⟨fun f' a b j' hj => (mu_ne A2 z (fun q => by have := h1 (by omega); omega)).trans (h.1 f' a b j' hj), fun f' a b j' hj => (mu_ne A2 z (fun q => by have := h2 (by omega) (by omega); omega)).trans (h.2.1 f' a b j' hj), fun f' a b j' hj => (mu_ne A2 z (fun q => by have := h3 (by omega); omega)).trans (h.2.2 f' a b j' hj)⟩
/-- a step is in order: of N steps, M nodes, Ln lots -/
def sG (P : Nat) (A : mA) (N M Ln : Int) (dep : Nat → Int) (i : Nat) : Prop :=
  (0 ≤ A 34 P i ∧ A 34 P i ≤ 5) ∧ ((i : Int) + 1 ≤ A 38 P i ∧ A 38 P i ≤ A 37 P i ∧ A 37 P i ≤ N) ∧ (-1 ≤ A 39 P i ∧ A 39 P i < M) ∧
  (A 34 P i = 1 ∨ A 34 P i = 2 ∨ A 34 P i = 3 ∨ A 34 P i = 5 → 0 ≤ A 39 P i) ∧ (A 34 P i = 0 ∨ A 34 P i = 1 ∨ A 34 P i = 5 → 0 ≤ A 35 P i) ∧
  (A 34 P i = 5 → 0 ≤ A 36 P i ∧ A 36 P i < P) ∧ (A 34 P i = 4 → 0 ≤ A 36 P i) ∧
  (A 34 P i = 0 → 0 ≤ A 40 P i ∧ 1 ≤ A 36 P i ∧ A 40 P i + A 36 P i ≤ Ln ∧ 1 ≤ ws (A 42 P) (A 40 P i).toNat (A 36 P i).toNat) ∧
  (0 ≤ dep i ∧ dep i ≤ 4) ∧ (A 34 P i = 3 ∨ A 34 P i = 4 → ∀ j : Nat, i < j → (j : Int) < A 37 P i → dep i < dep j)
theorem sG.keep {P : Nat} {A A9 : mA} {N M Ln N' M' Ln' s t n : Int} {dep dep' : Nat → Int} {i : Nat} (h : sG P A N M Ln dep i) (hN : N ≤ N') (hM : M ≤ M') (hL : Ln ≤ Ln') (q : pQ P s t n A A9) (hs : (i : Int) < s) (ht : Ln ≤ t) (hd : ∀ j : Nat, i ≤ j → (j : Int) < A 37 P i → dep' j = dep j) : sG P A9 N' M' Ln' dep' i := by
  have e34 := q.1 34 (by omega) (by omega) i hs
  have e35 := q.1 35 (by omega) (by omega) i hs
  have e36 := q.1 36 (by omega) (by omega) i hs
  have e37 := q.1 37 (by omega) (by omega) i hs
  have e38 := q.1 38 (by omega) (by omega) i hs
  have e39 := q.1 39 (by omega) (by omega) i hs
  have e40 := q.1 40 (by omega) (by omega) i hs
  obtain ⟨h1, h2, h3, h4, h5, h6, h7, h8, h9, h10⟩ := h
  have hdi := hd i (Nat.le_refl _) (by omega)
  unfold sG
  rw [e34, e35, e36, e37, e38, e39, e40, hdi]
  refine ⟨h1, ⟨h2.1, h2.2.1, by omega⟩, ⟨h3.1, by omega⟩, h4, h5, h6, h7, fun k => ?_, h9, fun k j hj hj2 => ?_⟩
  · obtain ⟨a1, a2, a3, a4⟩ := h8 k
    refine ⟨a1, a2, by omega, ?_⟩
    rw [ws_congr _ (fun k h1 h2 => q.2.1 42 (by omega) (by omega) k (by omega))]
    exact a4
  · rw [hd j (by omega) hj2]
    exact h10 k j hj hj2
theorem sG.fam {P : Nat} {A A9 : mA} {N M Ln : Int} {dep : Nat → Int} {i : Nat} (h : sG P A N M Ln dep i) (k : ∀ f, 34 ≤ f → A9 f P = A f P) : sG P A9 N M Ln dep i := by
  unfold sG at h ⊢
  rw [k 34 (by omega), k 35 (by omega), k 36 (by omega), k 37 (by omega), k 38 (by omega), k 39 (by omega), k 40 (by omega), k 42 (by omega)]
  exact h
def sB (P : Nat) (A : mA) (a : Int) (dep : Nat → Int) (d : Int) : Prop := ∀ i : Nat, a ≤ (i : Int) → (i : Int) < A 0 0 28 → sG P A (A 0 0 28) (A 0 0 30) (A 0 0 29) dep i ∧ d ≤ dep i
/-- a block was read, unless it is wrong -/
def pV (P : Nat) (d : Int) (A A9 : mA) : Prop := A9 0 0 31 = 0 → A 0 0 31 = 0 ∧ A 0 0 24 - A 0 0 30 - 3 * A 0 0 29 ≤ A9 0 0 24 - A9 0 0 30 - 3 * A9 0 0 29 ∧ A 0 0 28 + 1 ≤ A9 0 0 28 ∧ ∃ dep : Nat → Int, sB P A9 (A 0 0 28) dep d
theorem pV.trans {P : Nat} {d : Int} {A A2 A3 : mA} (h : pV P d A A2) (k : pV P d A2 A3) (q : pQ P (A2 0 0 28) (A2 0 0 29) (A2 0 0 30) A2 A3) (m1 : A2 0 0 28 ≤ A3 0 0 28) (m2 : A2 0 0 29 ≤ A3 0 0 29) (m3 : A2 0 0 30 ≤ A3 0 0 30) : pV P d A A3 := fun g => by
  obtain ⟨b1, b2, b3, dep3, b4⟩ := k g
  obtain ⟨a1, a2, a3, dep2, a4⟩ := h b1
  refine ⟨a1, by omega, by omega, fun j => if (j : Int) < A2 0 0 28 then dep2 j else dep3 j, fun i h1 h2 => ?_⟩
  by_cases c : (i : Int) < A2 0 0 28
  · obtain ⟨c1, c2⟩ := a4 i h1 c
    refine ⟨c1.keep m1 m3 m2 q c (Int.le_refl _) (fun j hj hj2 => ?_), by show d ≤ if (i : Int) < A2 0 0 28 then dep2 i else dep3 i; rw [if_pos c]; exact c2⟩
    have : (j : Int) < A2 0 0 28 := by have := c1.2.1.2.2; omega
    show (if (j : Int) < A2 0 0 28 then dep2 j else dep3 j) = dep2 j
    rw [if_pos this]
  · obtain ⟨c1, c2⟩ := b4 i (by omega) h2
    refine ⟨c1.keep (Int.le_refl _) (Int.le_refl _) (Int.le_refl _) (pQ.rfl' (s := A3 0 0 28) (t := A3 0 0 29) (n := 0)) h2 (Int.le_refl _) (fun j hj hj2 => ?_), by show d ≤ if (i : Int) < A2 0 0 28 then dep2 i else dep3 i; rw [if_neg c]; exact c2⟩
    show (if (j : Int) < A2 0 0 28 then dep2 j else dep3 j) = dep3 j
    rw [if_neg (by omega)]
/-- tokens only, behind -/
theorem pV.tok {P : Nat} {d : Int} {A A2 A3 : mA} (h : pV P d A A2) (k : ∀ f, 34 ≤ f → A3 f P = A2 f P) (e1 : A3 0 0 28 = A2 0 0 28) (e2 : A3 0 0 29 = A2 0 0 29) (e3 : A3 0 0 30 = A2 0 0 30) (w : A3 0 0 31 = 0 → A2 0 0 31 = 0) (m : A2 0 0 24 ≤ A3 0 0 24) : pV P d A A3 := fun g => by
  obtain ⟨a1, a2, a3, dep, a4⟩ := h (w g)
  refine ⟨a1, by omega, by omega, dep, fun i h1 h2 => ?_⟩
  obtain ⟨c1, c2⟩ := a4 i h1 (by omega)
  rw [e1, e2, e3]
  exact ⟨c1.fam k, c2⟩
/-- tokens only, ahead -/
theorem pV.ahead {P : Nat} {d : Int} {A A1 A3 : mA} (h : pV P d A1 A3) (e1 : A1 0 0 28 = A 0 0 28) (e2 : A1 0 0 29 = A 0 0 29) (e3 : A1 0 0 30 = A 0 0 30) (w : A1 0 0 31 = 0 → A 0 0 31 = 0) (m : A 0 0 24 ≤ A1 0 0 24) : pV P d A A3 := fun g => by
  obtain ⟨a1, a2, a3, dep, a4⟩ := h g
  rw [e1] at a3 a4
  exact ⟨w a1, by omega, a3, dep, a4⟩
/-- a step without blocks -/
theorem pV.one {P : Nat} {d : Int} {A A9 : mA} (g0 : A 0 0 31 = 0) (hs : A 0 0 24 - A 0 0 30 - 3 * A 0 0 29 ≤ A9 0 0 24 - A9 0 0 30 - 3 * A9 0 0 29) (hN : A9 0 0 28 = A 0 0 28 + 1) (h0 : 0 ≤ A 0 0 28) (h : sG P A9 (A9 0 0 28) (A9 0 0 30) (A9 0 0 29) (fun _ => d) (A 0 0 28).toNat) : pV P d A A9 := fun _ => ⟨g0, hs, by omega, fun _ => d, fun i h1 h2 => by
  have : i = (A 0 0 28).toNat := by omega
  subst this
  exact ⟨h, Int.le_refl _⟩⟩
theorem sG.row {P : Nat} {A A9 : mA} {N M Ln : Int} {dep dep' : Nat → Int} {i : Nat} (h : sG P A N M Ln dep i) (e : ∀ f, 34 ≤ f → f ≤ 40 → A9 f P i = A f P i) (w : A9 42 P = A 42 P) (hd : ∀ j : Nat, i ≤ j → (j : Int) < A 37 P i → dep' j = dep j) : sG P A9 N M Ln dep' i := by
  obtain ⟨h1, h2, h3, h4, h5, h6, h7, h8, h9, h10⟩ := h
  have hdi := hd i (Nat.le_refl _) (by omega)
  unfold sG
  rw [e 34 (by omega) (by omega), e 35 (by omega) (by omega), e 36 (by omega) (by omega), e 37 (by omega) (by omega), e 38 (by omega) (by omega), e 39 (by omega) (by omega), e 40 (by omega) (by omega), w, hdi]
  refine ⟨h1, h2, h3, h4, h5, h6, h7, h8, h9, fun k j hj hj2 => ?_⟩
  rw [hd j (by omega) hj2]
  exact h10 k j hj hj2
theorem mu_fk2 (A2 : mA) (P a : Nat) {x y : Int} : mu (mu A2 38 P a x) 37 P a y 42 P = A2 42 P := (mu_fk _ _ _ (fun q => absurd q.1 (by decide))).trans (mu_fk _ _ _ (fun q => absurd q.1 (by decide)))
/-- a LOOP step, its block read -/
theorem pV.loop {P a : Nat} {d : Int} {A1 A2 : mA} (hV : pV P (d + 1) A1 A2) (g : A2 0 0 31 = 0) (e1 : A1 0 0 28 = (a : Int) + 1) (h34 : A2 34 P a = 4) (h39 : A2 39 P a = -1) (h36 : 0 ≤ A2 36 P a) (hd : 0 ≤ d ∧ d ≤ 4) (h30 : 0 ≤ A2 0 0 30) : ∃ dep : Nat → Int, sB P (mu (mu A2 38 P a (A2 0 0 28)) 37 P a (A2 0 0 28)) (a : Int) dep d := by
  obtain ⟨-, -, b3, dep1, b4⟩ := hV g
  rw [e1] at b3 b4
  have r : ∀ f i, ¬ i = a → mu (mu A2 38 P a (A2 0 0 28)) 37 P a (A2 0 0 28) f P i = A2 f P i := fun f i hi => (mu_ne _ _ (fun q => hi q.2.2)).trans (mu_ne _ _ (fun q => hi q.2.2))
  have r37 : mu (mu A2 38 P a (A2 0 0 28)) 37 P a (A2 0 0 28) 37 P a = A2 0 0 28 := mu_at (mu A2 38 P a (A2 0 0 28)) 37 P a (A2 0 0 28)
  have r38 : mu (mu A2 38 P a (A2 0 0 28)) 37 P a (A2 0 0 28) 38 P a = A2 0 0 28 := (mu_ne (mu A2 38 P a (A2 0 0 28)) (A2 0 0 28) (fun q => absurd q.1 (by decide))).trans (mu_at A2 38 P a (A2 0 0 28))
  have ro : ∀ f, f ≠ 37 → f ≠ 38 → mu (mu A2 38 P a (A2 0 0 28)) 37 P a (A2 0 0 28) f P a = A2 f P a := fun f h1 h2 => (mu_ne _ _ (fun q => h1 q.1)).trans (mu_ne _ _ (fun q => h2 q.1))
  obtain ⟨dep, hdep⟩ : ∃ dep : Nat → Int, ∀ j, dep j = if j = a then d else dep1 j := ⟨_, fun _ => rfl⟩
  refine ⟨dep, fun i h1 h2 => ?_⟩
  have h2 : (i : Int) < A2 0 0 28 := h2
  by_cases c : i = a
  · subst c
    have hdi : dep i = d := by rw [hdep, if_pos rfl]
    refine ⟨?_, by omega⟩
    show sG P _ (A2 0 0 28) (A2 0 0 30) (A2 0 0 29) _ i
    unfold sG
    rw [r37, r38, ro 34 (by decide) (by decide), ro 35 (by decide) (by decide), ro 36 (by decide) (by decide), ro 39 (by decide) (by decide), ro 40 (by decide) (by decide), h34, h39, hdi]
    refine ⟨by omega, ⟨by omega, Int.le_refl _, Int.le_refl _⟩, by omega, by omega, by omega, fun k => absurd k (by decide), fun _ => h36, fun k => absurd k (by decide), hd, fun _ j hj hj2 => ?_⟩
    rw [hdep j, if_neg (by omega)]
    have := (b4 j (by omega) hj2).2
    omega
  · obtain ⟨c1, c2⟩ := b4 i (by omega) h2
    refine ⟨?_, by rw [hdep i, if_neg c]; omega⟩
    show sG P _ (A2 0 0 28) (A2 0 0 30) (A2 0 0 29) _ i
    refine c1.row (fun f _ _ => r f i c) (mu_fk2 A2 P a) (fun j hj _ => ?_)
    rw [hdep j, if_neg (by omega)]
/-- an IF step, its blocks read -/
theorem pV.cond {P a : Nat} {d : Int} {A1 A2 A4 : mA} (hV1 : pV P (d + 1) A1 A2) (hV2 : pV P (d + 1) (mu A2 38 P a (A2 0 0 28)) A4) (q : pQ P (A2 0 0 28) (A2 0 0 29) (A2 0 0 30) (mu A2 38 P a (A2 0 0 28)) A4) (m2 : A2 0 0 29 ≤ A4 0 0 29) (m3 : A2 0 0 30 ≤ A4 0 0 30) (g : A4 0 0 31 = 0) (e1 : A1 0 0 28 = (a : Int) + 1) (h34 : A4 34 P a = 3) (h39 : 0 ≤ A4 39 P a ∧ A4 39 P a < A4 0 0 30) (hd : 0 ≤ d ∧ d ≤ 4) : ∃ dep : Nat → Int, sB P (mu A4 37 P a (A4 0 0 28)) (a : Int) dep d := by
  obtain ⟨g2, -, b3, dep2, b4⟩ := hV2 g
  have g2 : A2 0 0 31 = 0 := g2
  have b3 : A2 0 0 28 + 1 ≤ A4 0 0 28 := b3
  have b4 : sB P A4 (A2 0 0 28) dep2 (d + 1) := b4
  obtain ⟨-, -, a3, dep1, a4⟩ := hV1 g2
  rw [e1] at a3 a4
  have r : ∀ f i, ¬ i = a → mu A4 37 P a (A4 0 0 28) f P i = A4 f P i := fun f i hi => mu_ne _ _ (fun q => hi q.2.2)
  have r37 : mu A4 37 P a (A4 0 0 28) 37 P a = A4 0 0 28 := mu_at A4 37 P a (A4 0 0 28)
  have r38 : A4 38 P a = A2 0 0 28 := (q.1 38 (by decide) (by decide) a (by omega)).trans (mu_at A2 38 P a (A2 0 0 28))
  have ro : ∀ f, f ≠ 37 → mu A4 37 P a (A4 0 0 28) f P a = A4 f P a := fun f h1 => mu_ne _ _ (fun q => h1 q.1)
  have w : mu A4 37 P a (A4 0 0 28) 42 P = A4 42 P := mu_fk A4 a (A4 0 0 28) (fun q => absurd q.1 (by decide))
  obtain ⟨dep, hdep⟩ : ∃ dep : Nat → Int, ∀ j, dep j = if j = a then d else if (j : Int) < A2 0 0 28 then dep1 j else dep2 j := ⟨_, fun _ => rfl⟩
  refine ⟨dep, fun i h1 h2 => ?_⟩
  have h2 : (i : Int) < A4 0 0 28 := h2
  by_cases c : i = a
  · subst c
    have hdi : dep i = d := by rw [hdep, if_pos rfl]
    refine ⟨?_, by omega⟩
    show sG P _ (A4 0 0 28) (A4 0 0 30) (A4 0 0 29) _ i
    unfold sG
    rw [r37, ro 34 (by decide), ro 35 (by decide), ro 36 (by decide), ro 38 (by decide), ro 39 (by decide), ro 40 (by decide), h34, r38, hdi]
    refine ⟨by omega, ⟨by omega, by omega, Int.le_refl _⟩, by omega, by omega, by omega, fun k => absurd k (by decide), fun k => absurd k (by decide), fun k => absurd k (by decide), hd, fun _ j hj hj2 => ?_⟩
    rw [hdep j, if_neg (by omega)]
    by_cases e : (j : Int) < A2 0 0 28
    · rw [if_pos e]
      have := (a4 j (by omega) e).2
      omega
    · rw [if_neg e]
      have hb : A2 0 0 28 ≤ (j : Int) := by omega
      have := (b4 j hb hj2).2
      omega
  · by_cases e : (i : Int) < A2 0 0 28
    · obtain ⟨c1, c2⟩ := a4 i (by omega) e
      refine ⟨?_, by rw [hdep i, if_neg c, if_pos e]; omega⟩
      show sG P _ (A4 0 0 28) (A4 0 0 30) (A4 0 0 29) _ i
      have k1 : sG P (mu A2 38 P a (A2 0 0 28)) (A2 0 0 28) (A2 0 0 30) (A2 0 0 29) dep1 i := c1.row (fun f _ _ => mu_ne _ _ (fun q => c q.2.2)) (mu_fk A2 a (A2 0 0 28) (fun q => absurd q.1 (by decide))) (fun _ _ _ => rfl)
      have k37 : mu A2 38 P a (A2 0 0 28) 37 P i = A2 37 P i := mu_ne _ _ (fun q => absurd q.1 (by decide))
      have k2 : sG P A4 (A4 0 0 28) (A4 0 0 30) (A4 0 0 29) dep i := k1.keep (by omega) m3 m2 q e (Int.le_refl _) (fun j hj hj2 => by
        have h37 := k1.2.1.2.2
        rw [hdep j, if_neg (by omega), if_pos (by omega)])
      exact k2.row (fun f _ _ => r f i c) w (fun _ _ _ => rfl)
    · obtain ⟨c1, c2⟩ := b4 i (by omega) h2
      refine ⟨?_, by rw [hdep i, if_neg c, if_neg e]; omega⟩
      show sG P _ (A4 0 0 28) (A4 0 0 30) (A4 0 0 29) _ i
      refine c1.row (fun f _ _ => r f i c) w (fun j hj _ => ?_)
      rw [hdep j, if_neg (by omega), if_neg (by omega)]
-- lots
def lo (P f k j : Nat) : Bool := (f == 0 && (j == 23 || (j == 24 || (j == 25 || (j == 26 || (j == 29 || j == 31)))))) || (k == P && (f == 36 || (f == 41 || f == 42)))
theorem nm_lo (P : Nat) : ∀ f k j, lo P f k j = false → nm f k j = false := by
  intro f k j h
  simp only [lo, nm, Bool.or_eq_false_iff] at h ⊢
  cases e : f == 0 with
  | false => rfl
  | true =>
    have := h.1
    rw [e] at this
    simp_all
theorem lo_pm (P : Nat) : ∀ f k j, pm P f k j = false → lo P f k j = false := by
  intro f k j h
  simp only [lo, pm, Bool.or_eq_false_iff] at h ⊢
  obtain ⟨h1, h2⟩ := h
  refine ⟨?_, ?_⟩
  · cases e : f == 0 with
    | false => rfl
    | true =>
      rw [e] at h1
      by_cases hj : 23 ≤ j ∧ j ≤ 31
      · rw [Nat.ble_eq.mpr hj.1, Nat.ble_eq.mpr hj.2] at h1; cases h1
      · simp only [Bool.true_and, Bool.or_eq_false_iff, beq_eq_false_iff_ne]
        omega
  · cases e : k == P with
    | false => rfl
    | true =>
      rw [e] at h2
      simp only [Bool.true_and, Bool.or_eq_false_iff, beq_eq_false_iff_ne]
      by_cases hf : 34 ≤ f ∧ f ≤ 46
      · rw [Nat.ble_eq.mpr hf.1, Nat.ble_eq.mpr hf.2] at h2; cases h2
      · omega
def lQ (P : Nat) (n : Int) (A A9 : mA) : Prop := ∀ j : Nat, (j : Int) < n → A9 41 P j = A 41 P j ∧ A9 42 P j = A 42 P j
def lNm (P i : Nat) (A A9 : mA) : Prop := ∀ j : Nat, j ≠ i → A9 36 P j = A 36 P j
def pLo (P i : Nat) (A A9 : mA) : Prop := A9 0 0 31 = 0 → A 0 0 31 = 0 ∧ A 0 0 24 - 3 * A 0 0 29 ≤ A9 0 0 24 - 3 * A9 0 0 29 ∧ 1 ≤ A9 36 P i ∧ A 0 0 29 + A9 36 P i ≤ A9 0 0 29 ∧ 1 ≤ ws (A9 42 P) (A 0 0 29).toNat (A9 36 P i).toNat
/-- the loop over the lots -/
def pLw (A A2 : mA) : Prop := A2 0 0 31 = 0 → A 0 0 31 = 0 ∧ A 0 0 24 - 3 * A 0 0 29 ≤ A2 0 0 24 - 3 * A2 0 0 29
theorem ws_push {A2 An : mA} {P fl x : Nat} {s v w z m : Int} (e : An 42 P = A2 42 P) (hs : s = ws (A2 42 P) fl m.toNat) (h0 : 0 ≤ m) (hx : x = fl + m.toNat) : s + w = ws (mu (mu (mu An 41 P x v) 42 P x w) 0 0 29 z 42 P) fl (m + 1).toNat := by
  have e2 : (m + 1).toNat = m.toNat + 1 := by omega
  have e3 : mu (mu (mu An 41 P x v) 42 P x w) 0 0 29 z 42 P = mu (mu An 41 P x v) 42 P x w 42 P := mu_fk _ _ _ (fun q => absurd q.1 (by decide))
  rw [e2, e3]
  show s + w = ws _ fl m.toNat + mu (mu An 41 P x v) 42 P x w 42 P (fl + m.toNat)
  rw [← hx, mu_at, hs]
  congr 1
  refine (ws_congr _ (fun k h1 h2 => ?_)).symm
  rw [mu_ne _ _ (fun q => by omega), mu_ne _ _ (fun q => by omega), e]
theorem lQ.push {A A2 An : mA} {P x : Nat} {n v w z : Int} (h : lQ P n A A2) (e1 : An 41 P = A2 41 P) (e2 : An 42 P = A2 42 P) (hx : n ≤ (x : Int)) : lQ P n A (mu (mu (mu An 41 P x v) 42 P x w) 0 0 29 z) := fun j hj => by
  have e3 : ∀ f, f ≠ 0 → mu (mu (mu An 41 P x v) 42 P x w) 0 0 29 z f P j = mu (mu An 41 P x v) 42 P x w f P j := fun f hf => mu_ne _ _ (fun q => hf q.1)
  rw [e3 41 (by decide), e3 42 (by decide), mu_ne _ _ (fun q => by omega), mu_ne _ _ (fun q => by omega), mu_ne _ _ (fun q => by omega), mu_ne _ _ (fun q => by omega), e1, e2]
  exact h j hj
theorem lQ.eq {A A2 An : mA} {P : Nat} {n : Int} (h : lQ P n A A2) (e1 : An 41 P = A2 41 P) (e2 : An 42 P = A2 42 P) : lQ P n A An := fun j hj => by rw [e1, e2]; exact h j hj
theorem lNm.eq {A An : mA} {P i : Nat} (e : An 36 P = A 36 P) : lNm P i A An := fun j _ => by rw [e]
theorem lNm.put {A An : mA} {P i : Nat} {z : Int} (e : An 36 P = A 36 P) : lNm P i A (mu An 36 P i z) := fun j hj => by rw [mu_ne _ _ (fun q => hj q.2.2), e]
theorem pLo.mk {P i : Nat} {A A2 : mA} {m s : Int} (g0 : A 0 0 31 = 0) (hs : A 0 0 24 - 3 * A 0 0 29 ≤ A2 0 0 24 - 3 * A2 0 0 29) (h1 : 1 ≤ m) (h29 : A2 0 0 29 = A 0 0 29 + m) (e : s = ws (A2 42 P) (A 0 0 29).toNat m.toNat) (h : 1 ≤ s) : pLo P i A (mu A2 36 P i m) := fun _ => by
  have r1 : mu A2 36 P i m 36 P i = m := mu_at _ _ _ _ _
  have r2 : mu A2 36 P i m 42 P = A2 42 P := mu_fk _ _ _ (fun q => absurd q.1 (by decide))
  have r3 : ∀ j, mu A2 36 P i m 0 0 j = A2 0 0 j := fun j => mu_ne _ _ (fun q => absurd q.1 (by decide))
  rw [r1, r2, r3 24, r3 29, ← e]
  exact ⟨g0, hs, h1, by omega, h⟩
