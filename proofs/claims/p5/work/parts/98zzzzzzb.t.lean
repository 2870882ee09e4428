/-! sheets of both; the first that is otherwise (own work) -/
/-- an item of a sheet, of both: bytes stand unsigned there, signed here -/
def cel (s c r : Int) : Prop := (s = 0 ∧ 0 ≤ c ∧ c ≤ 255 ∧ ((c < 128 ∧ r = c) ∨ (128 ≤ c ∧ r = c - 256))) ∨ (s ≠ 0 ∧ c = r)
abbrev shA (C : mA) (x s : Nat) : Nat := (C 22 (C 8 x 8).toNat s).toNat
abbrev shK (C : mA) (x s : Nat) : Nat := (C 5 (shA C x s) 0).toNat
def SH (x : Nat) (C A : mA) : Prop := (∀ s : Nat, s < 4 → (C 5 (shA C x s) 1 = A 11 0 s ∧ C 5 (shA C x s) 2 = A 12 0 s) ∧ (A 11 0 s = -1 ∨ A 11 0 s = 0 ∨ A 11 0 s = 1) ∧ (0 ≤ A 12 0 s ∧ A 12 0 s ≤ 40) ∧ ∀ j : Nat, (j : Int) < A 12 0 s → g32 (A 49 s j) ∧ cel (A 11 0 s) (C 24 (shK C x s) j) (A 49 s j)) ∧ ∀ s s' : Nat, s < 4 → s' < 4 → s ≠ s' → shA C x s ≠ shA C x s' ∧ shK C x s ≠ shK C x s'
theorem cel.eq {s c r h : Int} (k : cel s c r) (h0 : 0 ≤ h ∧ h ≤ 100) : c = h ↔ r = h := by
  unfold cel at k
  omega
theorem cel.g {s c r : Int} (k : cel s c r) (g : g32 r) : g32 c := by
  unfold cel at k
  unfold g32 at g ⊢
  omega
theorem SH.cg {x : Nat} {C C' A A' : mA} (h : SH x C A) (hf : ∀ f a j, f = 5 ∨ f = 22 ∨ f = 24 ∨ (f = 8 ∧ a = x) → C' f a j = C f a j) (hA : ∀ f a j, f = 11 ∨ f = 12 ∨ f = 49 → A' f a j = A f a j) : SH x C' A' := by
  have e1 : ∀ s, shA C' x s = shA C x s := fun s => by
    unfold shA
    rw [hf 8 x 8 (Or.inr (Or.inr (Or.inr ⟨rfl, rfl⟩))), hf 22 _ s (Or.inr (Or.inl rfl))]
  have e2 : ∀ s, shK C' x s = shK C x s := fun s => by
    show (C' 5 (shA C' x s) 0).toNat = (C 5 (shA C x s) 0).toNat
    rw [e1, hf 5 _ 0 (Or.inl rfl)]
  refine ⟨fun s hs => ?_, fun s s' hs hs' n => by rw [e1, e1, e2, e2]; exact h.2 s s' hs hs' n⟩
  obtain ⟨⟨a1, a2⟩, a3, a4, a5⟩ := h.1 s hs
  rw [e1, e2, hf 5 _ 1 (Or.inl rfl), hf 5 _ 2 (Or.inl rfl), hA 11 0 s (Or.inl rfl), hA 12 0 s (Or.inr (Or.inl rfl))]
  exact ⟨⟨a1, a2⟩, a3, a4, fun j hj => by rw [hA 49 s j (Or.inr (Or.inr rfl)), hf 24 _ j (Or.inr (Or.inr (Or.inl rfl)))]; exact a5 j hj⟩
/-- hundredths of a value -/
def hun (l : List xE) (n v : Nat) : Int := 100 * xwN l n ((v : Nat) : Int) / tot l
theorem hun_r {l : List xE} (h : gdL 50 l) (h0 : 0 < l.length) (n v : Nat) : 0 ≤ hun l n v ∧ hun l n v ≤ 100 := by
  have t0 := h.tot0
  have tp := h.totp h0
  have x0 := xwN_nn h.nn n ((v : Nat) : Int)
  unfold hun
  refine ⟨Int.ediv_nonneg (by omega) (by omega), ?_⟩
  exact Int.ediv_le_of_le_mul tp (by omega)
theorem hun_perm {l l' : List xE} (h : l.Perm l') (n v : Nat) : hun l n v = hun l' n v := by
  unfold hun
  rw [xwN_perm h, tot_perm h]
theorem c_hun {C : mA} {l : List xE} (h : gdL 50 l) (h0 : 0 < l.length) (n v : Nat) : f_CS_hundredths C (xwN l n ((v : Nat) : Int)) (tot l) = some (hun l n v, C) := by
  have t0 := h.tot0
  have tp := h.totp h0
  have x0 := xwN_nn h.nn n ((v : Nat) : Int)
  unfold f_CS_hundredths
  have n0 : tot l ≠ 0 := by omega
  have hl : lc (tot l) 0 ≠ 0 := by
    unfold lc
    rw [if_neg (by omega), if_neg n0]
    decide
  rw [if_pos (show g64 (tot l) by clear hl n0; unfold g64; omega), if_neg hl, if_pos (show g64 (100 * xwN l n ((v : Nat) : Int)) by clear hl n0; unfold g64; omega), if_pos n0, Int.tdiv_eq_ediv_of_nonneg (by clear hl n0; omega)]
  rfl
theorem m_hun {A : mA} {o : Nat} (hq : oQ A o) (h : gdL 50 (oC A o)) (h0 : 0 < (oC A o).length) {n : Nat} (hn : n < 6) (v : Nat) (hv : v < 100) : f_Mo_hundredths A o n v = some (hun (oC A o) n v, A) := by
  have t0 := h.tot0
  have tp := h.totp h0
  have x0 := xwN_nn h.nn n ((v : Nat) : Int)
  unfold f_Mo_hundredths
  have n0 : tot (oC A o) ≠ 0 := by omega
  rw [m_wOf hq hn (show g32 (v : Int) by clear n0; unfold g32; omega), obind]
  dsimp only
  rw [m_allO hq, obind]
  dsimp only
  rw [if_pos (show g64 (100 * xwN (oC A o) n ((v : Nat) : Int)) by clear n0; unfold g64; omega), if_pos (show g64 (tot (oC A o)) by clear n0; unfold g64; omega), if_pos n0, Int.tdiv_eq_ediv_of_nonneg (by clear n0; omega)]
  rfl
/-- the first of a row that is otherwise -/
def otw (e : Nat → Bool) : Nat → Nat → Int
  | 0, _ => -1
  | m + 1, j => if e j = true then otw e m (j + 1) else j
theorem otw_r {e : Nat → Bool} : ∀ m j, -1 ≤ otw e m j ∧ otw e m j ≤ ((m + j : Nat) : Int) := by
  intro m
  induction m with
  | zero => intro j; unfold otw; omega
  | succ m ih =>
    intro j
    unfold otw
    split
    · have := ih (j + 1)
      omega
    · omega
section YJO
variable {C A : mA} {x s cr o n : Nat} {l : List xE}
abbrev otE (A : mA) (s : Nat) (l : List xE) (n : Nat) : Nat → Bool := fun j => decide (A 49 s j = hun l n j)
theorem m_otw (h : SH x C A) (hs : s < 4) (hq : oQ A o) (hg : gdL 50 (oC A o)) (h0 : 0 < (oC A o).length) (hn : n < 6) : ∀ (m F j : Nat), A 12 0 s = ((j + m : Nat) : Int) → m < F → f_Mo_otherwise_3 F A s o n j = some (otw (otE A s (oC A o) n) m j, A) := by
  obtain ⟨⟨a1, a2⟩, a3, a4, a5⟩ := h.1 s hs
  have pS : 0 ≤ (s : Int) ∧ (s : Int) < ((4 : Nat) : Int) := by omega
  intro m
  induction m with
  | zero =>
    intro F j hj hF
    obtain ⟨F, rfl⟩ : ∃ q, F = q + 1 := ⟨F - 1, by omega⟩
    unfold f_Mo_otherwise_3
    simp only [Int.toNat_natCast]
    rw [if_pos pS, if_pos (show g32 (j : Int) by unfold g32; omega), if_pos (show g32 (A 12 0 s) by unfold g32; omega), if_pos (by omega)]
    rfl
  | succ m ih =>
    intro F j hj hF
    obtain ⟨F, rfl⟩ : ∃ q, F = q + 1 := ⟨F - 1, by omega⟩
    have hr := hun_r hg h0 n j
    unfold f_Mo_otherwise_3 otw
    simp only [Int.toNat_natCast]
    rw [if_pos pS, if_pos (show g32 (j : Int) by unfold g32; omega), if_pos (show g32 (A 12 0 s) by unfold g32; omega), if_neg (by omega), m_hun hq hg h0 hn j (by omega), obind]
    dsimp only
    rw [if_pos (show 0 ≤ (j : Int) ∧ (j : Int) < ((40 : Nat) : Int) by omega), if_pos (show g32 (hun (oC A o) n j) by unfold g32; omega), if_pos (a5 j (by omega)).1]
    have ej : ((j : Int) + 1) = ((j + 1 : Nat) : Int) := by omega
    by_cases k : A 49 s j = hun (oC A o) n j
    · rw [if_pos k.symm, if_pos (show otE A s (oC A o) n j = true from decide_eq_true k), ej]
      exact ih F (j + 1) (by rw [hj]; omega) (by omega)
    · rw [if_neg (fun q => k q.symm), if_neg (show ¬ otE A s (oC A o) n j = true from fun q => k (of_decide_eq_true q))]
theorem m_othw (h : SH x C A) (hs : s < 4) (hq : oQ A o) (hg : gdL 50 (oC A o)) (h0 : 0 < (oC A o).length) (hn : n < 6) : f_Mo_otherwise A s o n = some (otw (otE A s (oC A o) n) (A 12 0 s).toNat 0, A) := by
  obtain ⟨-, -, a4, -⟩ := h.1 s hs
  have := m_otw h hs hq hg h0 hn (A 12 0 s).toNat 50 0 (by omega) (by omega)
  exact this
theorem c_otw (h : SH x C A) (hs : s < 4) (hc : CWs C cr l) (hg : gdL 50 l) (h0 : 0 < l.length) (hr : ∀ v : Nat, v < 10 → C 23 (C 8 x 11).toNat v = xwN l n v) : ∀ (m F j : Nat), A 12 0 s = ((j + m : Nat) : Int) → j + m ≤ 10 → m < F → f_CS_firstOtherwise_12 F C x (shA C x s) cr j = some (otw (otE A s l n) m j, C) := by
  obtain ⟨⟨a1, a2⟩, a3, a4, a5⟩ := h.1 s hs
  intro m
  induction m with
  | zero =>
    intro F j hj h10 hF
    obtain ⟨F, rfl⟩ : ∃ q, F = q + 1 := ⟨F - 1, by omega⟩
    unfold f_CS_firstOtherwise_12
    rw [if_pos (show g32 (j : Int) by unfold g32; omega), a2]
    by_cases z : (10 : Int) ≤ j
    · rw [if_pos z]
      rfl
    · rw [if_neg z, if_pos (show g32 (A 12 0 s) by unfold g32; omega), if_pos (by omega)]
      rfl
  | succ m ih =>
    intro F j hj h10 hF
    obtain ⟨F, rfl⟩ : ∃ q, F = q + 1 := ⟨F - 1, by omega⟩
    have hr9 := hun_r hg h0 n j
    obtain ⟨c1, c2⟩ := a5 j (by omega)
    unfold f_CS_firstOtherwise_12 otw
    simp only [Int.toNat_natCast]
    rw [if_pos (show g32 (j : Int) by unfold g32; omega), a2, if_neg (show ¬ (10 : Int) ≤ j by omega), if_pos (show g32 (A 12 0 s) by unfold g32; omega), if_neg (by omega), if_pos (show 0 ≤ (j : Int) ∧ (j : Int) < ((40 : Nat) : Int) by omega), if_pos (show 0 ≤ (j : Int) ∧ (j : Int) < ((10 : Nat) : Int) by omega), c_weight hc, obind]
    dsimp only
    rw [hr j (by omega), c_hun hg h0 n j, obind]
    dsimp only
    rw [if_pos (c2.g c1), if_pos (show g32 (hun l n j) by unfold g32; omega)]
    have ej : ((j : Int) + 1) = ((j + 1 : Nat) : Int) := by omega
    by_cases k : A 49 s j = hun l n j
    · rw [if_pos ((c2.eq hr9).mpr k), if_pos (show otE A s l n j = true from decide_eq_true k), ej]
      exact ih F (j + 1) (by rw [hj]; omega) (by omega) (by omega)
    · rw [if_neg (fun q => k ((c2.eq hr9).mp q)), if_neg (show ¬ otE A s l n j = true from fun q => k (of_decide_eq_true q))]
theorem c_othw (h : SH x C A) (hs : s < 4) (hc : CWs C cr l) (hg : gdL 50 l) (h0 : 0 < l.length) (hn : n < 6) (h10 : A 12 0 s ≤ 10) : ∃ C', f_CS_firstOtherwise C x (shA C x s) cr n = some (otw (otE A s l n) (A 12 0 s).toNat 0, C') ∧ ∀ f a j, f ≠ 23 → C' f a j = C f a j := by
  obtain ⟨-, -, a4, -⟩ := h.1 s hs
  obtain ⟨C', s1, s2, s3⟩ := c_spread (C0 := C) (cr := cr) (row := (C 8 x 11).toNat) (nm := n) hc.g2 hn
  have hf : ∀ f a j, f ≠ 23 → C' f a j = C f a j := fun f a j q => s2 f a j (fun y => q y.1)
  have h' : SH x C' A := h.cg (fun f a j q => hf f a j (by omega)) (fun _ _ _ _ => rfl)
  have hc' : CWs C' cr l := hc.cg (fun j => hf 0 _ j (by decide)) (fun j => hf 31 _ j (by decide)) (fun j => hf 32 _ j (by decide))
  have e1 : shA C' x s = shA C x s := by
    unfold shA
    rw [hf 8 x 8 (by decide), hf 22 _ s (by decide)]
  have key := c_otw h' hs hc' hg h0 (fun v hv => by rw [hf 8 x 11 (by decide)]; exact s3 l hc v hv) (A 12 0 s).toNat 400 0 (by omega) (by omega) (by omega)
  rw [e1] at key
  refine ⟨C', ?_, hf⟩
  unfold f_CS_firstOtherwise
  rw [s1, obind]
  exact key
end YJO
