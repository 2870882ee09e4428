/-! FORMULAS of the reference (own work): nodes -/
def nT (M : mA) (P : Nat) : Nat → Int → List Int → Prop
  | 0, _, _ => False
  | n + 1, a, c => 0 ≤ a ∧ ((M 43 P a.toNat = 0 ∧ (M 45 P a.toNat = -1 ∧ M 46 P a.toNat = -1 ∧ 0 ≤ M 44 P a.toNat ∧ M 44 P a.toNat ≤ 99) ∧ c = [M 44 P a.toNat]) ∨ (M 43 P a.toNat = 1 ∧ (0 ≤ M 44 P a.toNat ∧ M 44 P a.toNat ≤ 5) ∧ c = [100 + M 44 P a.toNat]) ∨ (M 43 P a.toNat = 2 ∧ M 46 P a.toNat = -1 ∧ ∃ c1, M 45 P a.toNat < a ∧ nT M P n (M 45 P a.toNat) c1 ∧ c = c1 ++ [150]) ∨ (3 ≤ M 43 P a.toNat ∧ M 43 P a.toNat ≤ 255 ∧ ∃ c1 c2, M 45 P a.toNat < a ∧ M 46 P a.toNat < a ∧ nT M P n (M 45 P a.toNat) c1 ∧ nT M P n (M 46 P a.toNat) c2 ∧ c = c1 ++ (c2 ++ [200 + M 43 P a.toNat])))
theorem nT_up {M : mA} {P : Nat} : ∀ n a c, nT M P n a c → nT M P (n + 1) a c := by
  intro n
  induction n with
  | zero => intro a c h; exact h.elim
  | succ n ih =>
    intro a c h
    obtain ⟨h0, h⟩ := h
    refine ⟨h0, ?_⟩
    rcases h with h | h | ⟨h1, h1b, c1, h2, h3, h4⟩ | ⟨h1, h1b, c1, c2, h2, h3, h4, h5, h6⟩
    · exact Or.inl h
    · exact Or.inr (Or.inl h)
    · exact Or.inr (Or.inr (Or.inl ⟨h1, h1b, c1, h2, ih _ _ h3, h4⟩))
    · exact Or.inr (Or.inr (Or.inr ⟨h1, h1b, c1, c2, h2, h3, ih _ _ h4, ih _ _ h5, h6⟩))
theorem nT_add {M : mA} {P n : Nat} {a : Int} {c : List Int} (h : nT M P n a c) : ∀ k, nT M P (n + k) a c := by
  intro k
  induction k with
  | zero => exact h
  | succ k ih => exact nT_up _ _ _ ih
theorem nT_keep {M M' : mA} {P : Nat} : ∀ n a c, nT M P n a c → (∀ f j, 43 ≤ f → f ≤ 46 → ((j : Nat) : Int) ≤ a → M' f P j = M f P j) → nT M' P n a c := by
  intro n
  induction n with
  | zero => intro a c h _; exact h.elim
  | succ n ih =>
    intro a c h hk
    obtain ⟨h0, h⟩ := h
    have e3 := hk 43 a.toNat (by decide) (by decide) (by omega)
    have e4 := hk 44 a.toNat (by decide) (by decide) (by omega)
    have e5 := hk 45 a.toNat (by decide) (by decide) (by omega)
    have e6 := hk 46 a.toNat (by decide) (by decide) (by omega)
    refine ⟨h0, ?_⟩
    rw [e3, e4, e5, e6]
    rcases h with h | h | ⟨h1, h1b, c1, h2, h3, h4⟩ | ⟨h1, h1b, c1, c2, h2, h3, h4, h5, h6⟩
    · exact Or.inl h
    · exact Or.inr (Or.inl h)
    · exact Or.inr (Or.inr (Or.inl ⟨h1, h1b, c1, h2, ih _ _ h3 (fun f j a1 a2 a3 => hk f j a1 a2 (by omega)), h4⟩))
    · exact Or.inr (Or.inr (Or.inr ⟨h1, h1b, c1, c2, h2, h3, ih _ _ h4 (fun f j a1 a2 a3 => hk f j a1 a2 (by omega)), ih _ _ h5 (fun f j a1 a2 a3 => hk f j a1 a2 (by omega)), h6⟩))
/-- a node's formula -/
def nTr (M : mA) (P : Nat) (a : Int) (c : List Int) : Prop := ∃ n, nT M P n a c
def dN (P : Nat) (nd : Int) (f k j : Nat) : Prop := (f = 0 ∧ k = 0 ∧ j ∈ [23, 24, 25, 26, 27, 30, 31]) ∨ (43 ≤ f ∧ f ≤ 46 ∧ k = P ∧ nd ≤ j)
def fN (P : Nat) (M M' : mA) : Prop := M 0 0 30 ≤ M' 0 0 30 ∧ ∀ f k j, ¬ dN P (M 0 0 30) f k j → M' f k j = M f k j
theorem fN.refl {P : Nat} {M : mA} : fN P M M := ⟨Int.le_refl _, fun _ _ _ _ => rfl⟩
theorem fN.trans {P : Nat} {M M' M'' : mA} (h : fN P M M') (h' : fN P M' M'') : fN P M M'' := by
  refine ⟨Int.le_trans h.1 h'.1, fun f k j q => ?_⟩
  refine (h'.2 f k j (fun r => q ?_)).trans (h.2 f k j q)
  rcases r with r | r
  · exact Or.inl r
  · exact Or.inr ⟨r.1, r.2.1, r.2.2.1, Int.le_trans h.1 r.2.2.2⟩
theorem fN.ofM {P : Nat} {M M' : mA} {l : List Nat} (h : fM M M' l) (hl : ∀ j, j ∈ l → j ∈ [23, 24, 25, 26, 27, 31]) : fN P M M' := by
  refine ⟨by rw [h 0 0 30 (fun r => absurd (hl 30 r.2.2) (by decide))]; exact Int.le_refl _, fun f k j q => h f k j (fun r => q (Or.inl ⟨r.1, r.2.1, ?_⟩))⟩
  have := hl j r.2.2
  simp only [List.mem_cons, List.not_mem_nil, or_false] at this ⊢
  omega
theorem fN.z {P : Nat} {M M' : mA} (h : fN P M M') (j : Nat) (hj : j < 23) : M' 0 0 j = M 0 0 j := h.2 0 0 j (fun r => by
  rcases r with r | r
  · have := r.2.2
    simp only [List.mem_cons, List.not_mem_nil, or_false] at this
    omega
  · omega)
theorem fN.t {P : Nat} {M M' : mA} (h : fN P M M') (j : Nat) : M' 9 0 j = M 9 0 j := h.2 9 0 j (fun r => by
  rcases r with r | r
  · exact absurd r.1 (by decide)
  · omega)
theorem fN.nd {P : Nat} {M M' : mA} (h : fN P M M') {a : Int} {c : List Int} (ha : a < M 0 0 30) (ht : nTr M P a c) : nTr M' P a c := by
  obtain ⟨n, ht⟩ := ht
  refine ⟨n, nT_keep n a c ht (fun f j q1 q2 q3 => h.2 f P j (fun r => ?_))⟩
  rcases r with r | r
  · omega
  · omega
theorem bM.fN {P : Nat} {M M' : mA} {T : Nat → Int} {m : Nat} (h : bM M T m) (hf : fN P M M') : bM M' T m := by
  refine ⟨by rw [hf.z 22 (by decide)]; exact h.1, h.2.1, fun j hj => ?_⟩
  rw [hf.t]
  exact h.2.2 j hj
/-- what stands, whatever was read -/
def mI9 (P : Nat) (T : Nat → Int) (m : Nat) (M : mA) : Prop := bM M T m ∧ M 0 0 0 = P ∧ P < 6 ∧ 0 ≤ M 0 0 30 ∧ M 0 0 30 ≤ 120
/-- the reference stands at a token -/
def mE9 (P : Nat) (T : Nat → Int) (m : Nat) (M : mA) (p : Nat) : Prop := mI9 P T m M ∧ gM M (kTok T m p) ∧ p ≤ m ∧ M 0 0 30 ≤ p
def mRes (P : Nat) (T : Nat → Int) (m : Nat) (op : Int) (M : mA) (z : Int) (M' : mA) (r : kR (List Int)) : Prop := fN P M M' ∧ mI9 P T m M' ∧ M' 0 0 27 = op ∧ kCase r (fun b => M' 0 0 31 = 1 ∧ M' 0 0 24 = b) (fun x => mE9 P T m M' x.1 ∧ M' 0 0 30 ≤ M 0 0 30 + x.2.length ∧ (M' 0 0 31 = 0 → z < M' 0 0 30 ∧ nTr M' P z x.2))
def mFn (P : Nat) (T : Nat → Int) (m : Nat) (op : Int) (fn : mA → Option (Int × mA)) (f : Nat → kR (List Int)) : Prop := ∀ M p, mE9 P T m M p → M 0 0 27 = op → ∃ z M', fn M = some (z, M') ∧ mRes P T m op M z M' (f p)
section FR
variable {P : Nat} {T : Nat → Int} {m : Nat} {op : Int}
theorem mI9.tx {M : mA} (h : mI9 P T m M) : m ≤ 120 ∧ ∀ j, j < 120 → 0 ≤ T j ∧ T j ≤ 255 := ⟨h.1.2.1, fun j hj => (h.1.2.2 j hj).2⟩
theorem mI9.fN {M M' : mA} (h : mI9 P T m M) (hf : fN P M M') (hc : M' 0 0 30 ≤ 120) : mI9 P T m M' := ⟨h.1.fN hf, by rw [hf.z 0 (by decide)]; exact h.2.1, h.2.2.1, Int.le_trans h.2.2.2.1 hf.1, hc⟩
theorem mE9.good {M : mA} {p : Nat} (h : mE9 P T m M p) : kGood m p (kTok T m p) := kTok_ok h.1.tx.1 h.1.tx.2 h.2.2.1
theorem mE9.w {M : mA} {p : Nat} (h : mE9 P T m M p) : M 0 0 31 = 0 ∧ tkS (kTok T m p) ≠ 5 ∨ M 0 0 31 = 1 ∧ tkS (kTok T m p) = 5 := by
  have e := h.2.1.2.2.2.2
  by_cases c : tkS (kTok T m p) = 5
  · rw [if_pos c] at e
    exact Or.inr ⟨e, c⟩
  · rw [if_neg c] at e
    exact Or.inl ⟨e, c⟩
theorem m_isSign {M : mA} {p : Nat} (h : mE9 P T m M p) {c : Int} (hc : 0 ≤ c ∧ c ≤ 255) : f_Mo_isSign M c = some (if kSg (kTok T m p) c then 1 else 0, M) := by
  obtain ⟨-, -, -, -, g5, g6, -⟩ := h.good
  obtain ⟨-, -, e5, e6, -⟩ := h.2.1
  unfold f_Mo_isSign
  rcases h.w with ⟨w1, w2⟩ | ⟨w1, w2⟩
  · rw [w1, if_pos (by decide), if_pos rfl, e5 w2, if_pos (by unfold g32; omega)]
    by_cases c1 : tkS (kTok T m p) = 4
    · rw [if_pos c1, e6 (by omega) (by omega), if_pos (by unfold g32; omega), if_pos (by unfold g32; omega)]
      by_cases c2 : tkV (kTok T m p) = c
      · rw [if_pos c2, if_pos ⟨c1, c2⟩]
      · rw [if_neg c2, if_neg (fun r => c2 r.2)]
    · rw [if_neg c1, if_neg (fun r => c1 r.1)]
  · rw [w1, if_pos (by decide), if_neg (by decide), if_neg (fun r => absurd r.1 (by rw [w2]; decide))]
theorem m_dead {M : mA} {c : Int} (h : M 0 0 31 = 1) : f_Mo_isSign M c = some (0, M) := by
  unfold f_Mo_isSign
  rw [h, if_pos (by decide), if_neg (by decide)]
/-- the next token, of a formula -/
theorem m_adv {M : mA} {p : Nat} (h : mI9 P T m M) (hg : gM M (kTok T m p)) (h31 : M 0 0 31 = 0) (hp : p ≤ m) (hc : M 0 0 30 ≤ tkE (kTok T m p)) : ∃ M', f_Mo_next M = some (0, M') ∧ fM M M' [23, 24, 25, 26, 31] ∧ mE9 P T m M' (tkE (kTok T m p)) := by
  obtain ⟨g1, g2, g3, -⟩ := kTok_ok h.tx.1 h.tx.2 hp
  obtain ⟨M', x1, x2, x3⟩ := m_next h.1 h31 hg.1 g3
  have e3 : M' 0 0 30 = M 0 0 30 := x2 0 0 30 (fun r => absurd r.2.2 (by decide))
  exact ⟨M', x1, x2, h.fN (fN.ofM x2 (by decide)) (by rw [e3]; exact h.2.2.2.2), x3, g3, by rw [e3]; exact hc⟩
/-- a node is laid -/
theorem m_node {M : mA} (h : mI9 P T m M) (h31 : M 0 0 31 = 0) (hn : M 0 0 30 < 120) (a b c d : Int) : ∃ M', f_Mo_node M a b c d = some (M 0 0 30, M') ∧ fN P M M' ∧ mI9 P T m M' ∧ (∀ j, j ≠ 30 → M' 0 0 j = M 0 0 j) ∧ M' 0 0 30 = M 0 0 30 + 1 ∧ M' 43 P (M 0 0 30).toNat = a ∧ M' 44 P (M 0 0 30).toNat = b ∧ M' 45 P (M 0 0 30).toNat = c ∧ M' 46 P (M 0 0 30).toNat = d := by
  obtain ⟨h1, h2, h3, h4, h5⟩ := h
  unfold f_Mo_node
  rw [h31, if_pos (by decide), if_pos rfl, h2, if_pos (by omega), if_pos (by omega), Int.toNat_natCast, show M 0 0 30 + 1 - 1 = M 0 0 30 by omega]
  have e30 : (mu (mu (mu (mu (mu M 43 P (M 0 0 30).toNat a) 44 P (M 0 0 30).toNat b) 45 P (M 0 0 30).toNat c) 46 P (M 0 0 30).toNat d) 0 0 30 (M 0 0 30 + 1)) 0 0 30 = M 0 0 30 + 1 := mu_at _ _ _ _ _
  have f1 : fN P M (mu (mu (mu (mu (mu M 43 P (M 0 0 30).toNat a) 44 P (M 0 0 30).toNat b) 45 P (M 0 0 30).toNat c) 46 P (M 0 0 30).toNat d) 0 0 30 (M 0 0 30 + 1)) := by
    refine ⟨by rw [e30]; omega, fun f k j q => ?_⟩
    have n : ∀ f', 43 ≤ f' → f' ≤ 46 → ¬ (f = f' ∧ k = P ∧ j = (M 0 0 30).toNat) := fun f' a1 a2 r => q (Or.inr ⟨by omega, by omega, r.2.1, by omega⟩)
    rw [mu_ne _ _ (fun r => q (Or.inl ⟨r.1, r.2.1, by rw [r.2.2]; decide⟩)), mu_ne _ _ (n 46 (by decide) (by decide)), mu_ne _ _ (n 45 (by decide) (by decide)), mu_ne _ _ (n 44 (by decide) (by decide)), mu_ne _ _ (n 43 (by decide) (by decide))]
  refine ⟨_, rfl, f1, mI9.fN ⟨h1, h2, h3, h4, h5⟩ f1 (by rw [e30]; omega), fun j hj => ?_, e30, ?_, ?_, ?_, ?_⟩
  · rw [mu_ne _ _ (fun r => hj r.2.2)]
    rfl
  · show mu M 43 P (M 0 0 30).toNat a 43 P (M 0 0 30).toNat = a
    exact mu_at _ _ _ _ _
  · show mu (mu M 43 P (M 0 0 30).toNat a) 44 P (M 0 0 30).toNat b 44 P (M 0 0 30).toNat = b
    exact mu_at _ _ _ _ _
  · show mu (mu (mu M 43 P (M 0 0 30).toNat a) 44 P (M 0 0 30).toNat b) 45 P (M 0 0 30).toNat c 45 P (M 0 0 30).toNat = c
    exact mu_at _ _ _ _ _
  · show mu (mu (mu (mu M 43 P (M 0 0 30).toNat a) 44 P (M 0 0 30).toNat b) 45 P (M 0 0 30).toNat c) 46 P (M 0 0 30).toNat d 46 P (M 0 0 30).toNat = d
    exact mu_at _ _ _ _ _
theorem m_node1 {M : mA} (h31 : M 0 0 31 = 1) (a b c d : Int) : f_Mo_node M a b c d = some (0, M) := by
  unfold f_Mo_node
  rw [h31, if_pos (by decide), if_neg (by decide)]
/-- a sign's node -/
theorem nTr.two {M : mA} {a x y v : Int} {c d : List Int} (h0 : 0 ≤ a) (hv : 3 ≤ v) (hv2 : v ≤ 255) (h3 : M 43 P a.toNat = v) (h5 : M 45 P a.toNat = x) (h6 : M 46 P a.toNat = y) (hx : x < a) (hy : y < a) (tx : nTr M P x c) (ty : nTr M P y d) : nTr M P a (c ++ (d ++ [200 + v])) := by
  obtain ⟨n, tx⟩ := tx
  obtain ⟨k, ty⟩ := ty
  refine ⟨n + k + 1, h0, Or.inr (Or.inr (Or.inr ⟨by omega, by omega, c, d, by omega, by omega, by rw [h5]; exact nT_add tx k, by rw [h6, Nat.add_comm]; exact nT_add ty n, by rw [h3]⟩))⟩
theorem nTr.neg {M : mA} {a x : Int} {c : List Int} (h0 : 0 ≤ a) (h3 : M 43 P a.toNat = 2) (h5 : M 45 P a.toNat = x) (h6 : M 46 P a.toNat = -1) (hx : x < a) (tx : nTr M P x c) : nTr M P a (c ++ [150]) := by
  obtain ⟨n, tx⟩ := tx
  exact ⟨n + 1, h0, Or.inr (Or.inr (Or.inl ⟨h3, h6, c, by omega, by rw [h5]; exact tx, rfl⟩))⟩
end FR
