/-! STEPS of the reference (own work): what stands, what is kept -/
/-- the reference stands at a token, k steps read -/
def mTk (P : Nat) (T : Nat → Int) (m : Nat) (M : mA) (p k : Nat) : Prop := mE9 P T m M p ∧ (M 0 0 31 = 0 → 0 ≤ M 0 0 29 ∧ 3 * M 0 0 29 ≤ p ∧ M 0 0 28 = k) ∧ k ≤ 16
def dT (P k : Nat) (ls nd : Int) (f a j : Nat) : Prop := (f = 0 ∧ a = 0 ∧ 23 ≤ j ∧ j ≤ 31) ∨ (34 ≤ f ∧ f ≤ 40 ∧ a = P ∧ k ≤ j) ∨ (41 ≤ f ∧ f ≤ 42 ∧ a = P ∧ ls ≤ j) ∨ (43 ≤ f ∧ f ≤ 46 ∧ a = P ∧ nd ≤ j)
/-- changed at most: scalars of the reading, from step k on, from these lots and nodes on -/
def fT (P k : Nat) (M M' : mA) : Prop := M 0 0 29 ≤ M' 0 0 29 ∧ M 0 0 30 ≤ M' 0 0 30 ∧ ∀ f a j, ¬ dT P k (M 0 0 29) (M 0 0 30) f a j → M' f a j = M f a j
theorem fT.refl {P k : Nat} {M : mA} : fT P k M M := ⟨Int.le_refl _, Int.le_refl _, fun _ _ _ _ => rfl⟩
theorem fT.trans {P k k' : Nat} {M M' M'' : mA} (h : fT P k M M') (h' : fT P k' M' M'') (hk : k ≤ k') : fT P k M M'' := by
  refine ⟨Int.le_trans h.1 h'.1, Int.le_trans h.2.1 h'.2.1, fun f a j q => ?_⟩
  refine (h'.2.2 f a j (fun r => q ?_)).trans (h.2.2 f a j q)
  rcases r with r | r | r | r
  · exact Or.inl r
  · exact Or.inr (Or.inl ⟨r.1, r.2.1, r.2.2.1, Nat.le_trans hk r.2.2.2⟩)
  · exact Or.inr (Or.inr (Or.inl ⟨r.1, r.2.1, r.2.2.1, Int.le_trans h.1 r.2.2.2⟩))
  · exact Or.inr (Or.inr (Or.inr ⟨r.1, r.2.1, r.2.2.1, Int.le_trans h.2.1 r.2.2.2⟩))
theorem fT.ofN {P k : Nat} {M M' : mA} (h : fN P M M') : fT P k M M' := by
  have e : M' 0 0 29 = M 0 0 29 := h.2 0 0 29 (fun r => by
    rcases r with r | r
    · exact absurd r.2.2 (by decide)
    · omega)
  refine ⟨by rw [e]; exact Int.le_refl _, h.1, fun f a j q => h.2 f a j (fun r => q ?_)⟩
  rcases r with r | r
  · refine Or.inl ⟨r.1, r.2.1, ?_⟩
    have := r.2.2
    simp only [List.mem_cons, List.not_mem_nil, or_false] at this
    omega
  · exact Or.inr (Or.inr (Or.inr r))
theorem fT.ofK {P k i : Nat} {M M' : mA} (h : fK P i M M') (hi : k ≤ i) : fT P k M M' := by
  have e : M' 0 0 30 = M 0 0 30 := h.2 0 0 30 (fun r => by
    rcases r with r | r | r
    · exact absurd r.2.2 (by decide)
    · omega
    · omega)
  refine ⟨h.1, by rw [e]; exact Int.le_refl _, fun f a j q => h.2 f a j (fun r => q ?_)⟩
  rcases r with r | r | r
  · refine Or.inl ⟨r.1, r.2.1, ?_⟩
    have := r.2.2
    simp only [List.mem_cons, List.not_mem_nil, or_false] at this
    omega
  · exact Or.inr (Or.inr (Or.inl ⟨by omega, by omega, r.2.1, r.2.2⟩))
  · exact Or.inr (Or.inl ⟨by omega, by omega, r.2.1, by omega⟩)
theorem fT.ofM {P k : Nat} {M M' : mA} {l : List Nat} (h : fM M M' l) (hl : ∀ j, j ∈ l → 23 ≤ j ∧ j ≤ 31 ∧ j ≠ 29 ∧ j ≠ 30) : fT P k M M' :=
  ⟨by rw [h 0 0 29 (fun r => (hl 29 r.2.2).2.2.1 rfl)]; exact Int.le_refl _, by rw [h 0 0 30 (fun r => (hl 30 r.2.2).2.2.2 rfl)]; exact Int.le_refl _, fun f a j q => h f a j (fun r => q (Or.inl ⟨r.1, r.2.1, (hl j r.2.2).1, (hl j r.2.2).2.1⟩))⟩
theorem fT.row {P k i f : Nat} {M : mA} {z : Int} (hf : 34 ≤ f ∧ f ≤ 40) (hi : k ≤ i) : fT P k M (mu M f P i z) := by
  refine ⟨?_, ?_, fun f' a j q => mu_ne _ _ (fun r => q (Or.inr (Or.inl ⟨by rw [r.1]; exact hf.1, by rw [r.1]; exact hf.2, r.2.1, by rw [r.2.2]; exact hi⟩)))⟩
  · rw [mu_ne _ _ (fun r => by have := r.1; omega)]
    exact Int.le_refl _
  · rw [mu_ne _ _ (fun r => by have := r.1; omega)]
    exact Int.le_refl _
theorem fT.w1 {P k : Nat} {M : mA} {z : Int} : fT P k M (mu M 0 0 31 z) := fT.ofM (l := [31]) (fM.mu (by decide)) (by decide)
theorem fT.o7 {P k : Nat} {M : mA} {z : Int} : fT P k M (mu M 0 0 27 z) := fT.ofM (l := [27]) (fM.mu (by decide)) (by decide)
theorem fT.low {P k : Nat} {M M' : mA} (h : fT P k M M') {f i : Nat} (hf : 34 ≤ f ∧ f ≤ 40) (hi : i < k) : M' f P i = M f P i := h.2.2 f P i (fun r => by
  rcases r with r | r | r | r <;> omega)
theorem fT.z {P k : Nat} {M M' : mA} (h : fT P k M M') (j : Nat) (hj : j < 23 ∨ 31 < j) : M' 0 0 j = M 0 0 j := h.2.2 0 0 j (fun r => by
  rcases r with r | r | r | r <;> omega)
theorem fT.far {P k : Nat} {M M' : mA} (h : fT P k M M') (f a j : Nat) (hf : f ≠ 0) (hf2 : f < 34 ∨ 46 < f ∨ a ≠ P) : M' f a j = M f a j := h.2.2 f a j (fun r => by
  rcases r with r | r | r | r <;> omega)
theorem fT.nd {P k : Nat} {M M' : mA} (h : fT P k M M') {a : Int} {c : List Int} (ha : a < M 0 0 30) (ht : nTr M P a c) : nTr M' P a c := by
  obtain ⟨n, ht⟩ := ht
  refine ⟨n, nT_keep n a c ht (fun f j q1 q2 q3 => h.2.2 f P j (fun r => ?_))⟩
  rcases r with r | r | r | r <;> omega
theorem fT.lot {P k : Nat} {M M' : mA} (h : fT P k M M') {f : Nat} (hf : f = 41 ∨ f = 42) (j : Nat) (hj : (j : Int) < M 0 0 29) : M' f P j = M f P j := h.2.2 f P j (fun r => by
  rcases r with r | r | r | r <;> omega)
/-- what is kept of a step, but for its ends -/
def mPre (P : Nat) (M : mA) (i : Nat) (s : kS) : Prop :=
  (M 34 P i = sK s ∧ M 35 P i = sN s ∧ M 36 P i = sU s) ∧
  (sK s ≠ 0 → sK s ≠ 4 → M 39 P i < M 0 0 30 ∧ nTr M P (M 39 P i) (sC s)) ∧ (sK s = 0 ∨ sK s = 4 → M 39 P i = -1) ∧
  (sK s = 0 → ∃ n : Nat, M 40 P i = n ∧ ((n + (sL s).length : Nat) : Int) ≤ M 0 0 29 ∧ lotsM M P n (sL s))
def mIs (P : Nat) (M : mA) (i : Nat) (s : kS) : Prop := mPre P M i s ∧ M 37 P i = ((i + sI s : Nat) : Int) ∧ M 38 P i = ((i + sO s : Nat) : Int)
def mAll (P : Nat) (M : mA) (k : Nat) (c : List kS) : Prop := ∀ j, j < c.length → mIs P M (k + j) (c.getD j kS0)
theorem mPre.keep {P k i : Nat} {M M' : mA} {s : kS} (h : mPre P M i s) (hf : fT P k M M') (hi : i < k) : mPre P M' i s := by
  obtain ⟨⟨a1, a2, a3⟩, h2, h3, h4⟩ := h
  have e : ∀ f, 34 ≤ f ∧ f ≤ 40 → M' f P i = M f P i := fun f q => hf.low q hi
  refine ⟨⟨by rw [e 34 (by decide)]; exact a1, by rw [e 35 (by decide)]; exact a2, by rw [e 36 (by decide)]; exact a3⟩, fun q1 q2 => ?_, fun q => ?_, fun q => ?_⟩
  · obtain ⟨b1, b2⟩ := h2 q1 q2
    rw [e 39 (by decide)]
    exact ⟨Int.lt_of_lt_of_le b1 hf.2.1, hf.nd b1 b2⟩
  · rw [e 39 (by decide)]
    exact h3 q
  · obtain ⟨n, b1, b2, b3⟩ := h4 q
    refine ⟨n, by rw [e 40 (by decide)]; exact b1, Int.le_trans b2 hf.1, fun j hj => ?_⟩
    rw [hf.lot (Or.inl rfl) (n + j) (by omega), hf.lot (Or.inr rfl) (n + j) (by omega)]
    exact b3 j hj
theorem mIs.keep {P k i : Nat} {M M' : mA} {s : kS} (h : mIs P M i s) (hf : fT P k M M') (hi : i < k) : mIs P M' i s := by
  refine ⟨h.1.keep hf hi, ?_, ?_⟩
  · rw [hf.low (by decide) hi]
    exact h.2.1
  · rw [hf.low (by decide) hi]
    exact h.2.2
theorem mAll.keep {P k k' : Nat} {M M' : mA} {c : List kS} (h : mAll P M k c) (hf : fT P k' M M') (hk : k + c.length ≤ k') : mAll P M' k c := fun j hj => (h j hj).keep hf (by omega)
theorem mAll.nil {P k : Nat} {M : mA} : mAll P M k [] := fun j hj => absurd hj (Nat.not_lt_zero j)
theorem mAll.app {P k : Nat} {M : mA} {c d : List kS} (h : mAll P M k c) (h' : mAll P M (k + c.length) d) : mAll P M k (c ++ d) := fun j hj => by
  rw [List.length_append] at hj
  by_cases q : j < c.length
  · have := h j q
    rw [List.getD_eq_getElem?_getD] at this ⊢
    rw [List.getElem?_append_left q]
    exact this
  · have := h' (j - c.length) (by omega)
    rw [List.getD_eq_getElem?_getD] at this ⊢
    rw [List.getElem?_append_right (by omega)]
    have e : k + c.length + (j - c.length) = k + j := by omega
    rw [e] at this
    exact this
theorem mAll.cons {P k : Nat} {M : mA} {s : kS} {d : List kS} (h : mIs P M k s) (h' : mAll P M (k + 1) d) : mAll P M k (s :: d) := fun j hj => by
  cases j with
  | zero => exact h
  | succ j =>
    have := h' j (by
      have : j + 1 < d.length + 1 := hj
      omega)
    have e : k + 1 + j = k + (j + 1) := by omega
    rw [e] at this
    exact this
/-- a write to a row of another step, or of its ends -/
theorem mPre.wr {P i k f : Nat} {M : mA} {s : kS} {z : Int} (hf : 34 ≤ f ∧ f ≤ 40) (hn : i ≠ k ∨ f = 37 ∨ f = 38) (h : mPre P M i s) : mPre P (mu M f P k z) i s := by
  have e : ∀ f', f' ≠ 37 → f' ≠ 38 → mu M f P k z f' P i = M f' P i := fun f' q1 q2 => mu_ne _ _ (fun r => by omega)
  have e0 : ∀ f' a j, f' < 34 ∨ 40 < f' → mu M f P k z f' a j = M f' a j := fun f' a j q => mu_ne _ _ (fun r => by omega)
  obtain ⟨⟨a1, a2, a3⟩, h2, h3, h4⟩ := h
  refine ⟨⟨by rw [e 34 (by decide) (by decide)]; exact a1, by rw [e 35 (by decide) (by decide)]; exact a2, by rw [e 36 (by decide) (by decide)]; exact a3⟩, fun q1 q2 => ?_, fun q => ?_, fun q => ?_⟩
  · obtain ⟨b1, b2⟩ := h2 q1 q2
    rw [e 39 (by decide) (by decide), e0 0 0 30 (by decide)]
    exact ⟨b1, (fT.row (k := k) hf (Nat.le_refl k)).nd b1 b2⟩
  · rw [e 39 (by decide) (by decide)]
    exact h3 q
  · obtain ⟨n, b1, b2, b3⟩ := h4 q
    refine ⟨n, by rw [e 40 (by decide) (by decide)]; exact b1, by rw [e0 0 0 29 (by decide)]; exact b2, fun j hj => ?_⟩
    rw [e0 41 _ _ (by decide), e0 42 _ _ (by decide)]
    exact b3 j hj
theorem mIs.wr {P i k f : Nat} {M : mA} {s : kS} {z : Int} (hf : 34 ≤ f ∧ f ≤ 40) (hn : i ≠ k) (h : mIs P M i s) : mIs P (mu M f P k z) i s := by
  refine ⟨h.1.wr hf (Or.inl hn), ?_, ?_⟩
  · rw [mu_ne _ _ (fun r => hn r.2.2)]
    exact h.2.1
  · rw [mu_ne _ _ (fun r => hn r.2.2)]
    exact h.2.2
theorem mAll.wr {P k k' f : Nat} {M : mA} {c : List kS} {z : Int} (hf : 34 ≤ f ∧ f ≤ 40) (hk : k < k') (h : mAll P M k' c) : mAll P (mu M f P k z) k' c := fun j hj => (h j hj).wr hf (by omega)
section MS
variable {P : Nat} {T : Nat → Int} {m d : Nat}
theorem mE9.alive {M : mA} {p : Nat} (h : mE9 P T m M p) (hs : tkS (kTok T m p) ≠ 5) : M 0 0 31 = 0 := by
  rcases h.w with w | w
  · exact w.1
  · exact absurd w.2 hs
theorem mE9.keep2 {M M' : mA} {p : Nat} (h : mE9 P T m M p) (h0 : ∀ j, j ≠ 27 → j ≠ 28 → j ≠ 29 → M' 0 0 j = M 0 0 j) (h9 : ∀ j, M' 9 0 j = M 9 0 j) : mE9 P T m M' p := by
  obtain ⟨⟨⟨a1, a2, a3⟩, b1, b2, b3, b4⟩, ⟨c1, c2, c3, c4, c5⟩, d1, d2⟩ := h
  have e : ∀ j, j ≠ 27 ∧ j ≠ 28 ∧ j ≠ 29 → M' 0 0 j = M 0 0 j := fun j q => h0 j q.1 q.2.1 q.2.2
  refine ⟨⟨⟨?_, a2, fun j hj => ?_⟩, ?_, b2, ?_, ?_⟩, ⟨?_, ?_, fun q => ?_, fun q1 q2 => ?_, ?_⟩, d1, ?_⟩
  · rw [e 22 (by decide)]; exact a1
  · rw [h9]; exact a3 j hj
  · rw [e 0 (by decide)]; exact b1
  · rw [e 30 (by decide)]; exact b3
  · rw [e 30 (by decide)]; exact b4
  · rw [e 23 (by decide)]; exact c1
  · rw [e 24 (by decide)]; exact c2
  · rw [e 25 (by decide)]; exact c3 q
  · rw [e 26 (by decide)]; exact c4 q1 q2
  · rw [e 31 (by decide)]; exact c5
  · rw [e 30 (by decide)]; exact d2
theorem mTk.row {M : mA} {p k a i f : Nat} {z : Int} (hf : 34 ≤ f) (h : mTk P T m M p k) : mTk P T m (mu M f a i z) p k := by
  have e : ∀ f' a' j, f' < 34 → mu M f a i z f' a' j = M f' a' j := fun f' a' j q => mu_ne _ _ (fun r => by omega)
  refine ⟨h.1.keep2 (fun j _ _ _ => e 0 0 j (by decide)) (fun j => e 9 0 j (by decide)), fun q => ?_, h.2.2⟩
  rw [e 0 0 31 (by decide)] at q
  rw [e 0 0 29 (by decide), e 0 0 28 (by decide)]
  exact h.2.1 q
theorem mTk.o7 {M : mA} {p k : Nat} {z : Int} (h : mTk P T m M p k) : mTk P T m (mu M 0 0 27 z) p k :=
  ⟨h.1.keep2 (fun j q _ _ => mu_ne _ _ (fun r => q r.2.2)) (fun j => mu_ne _ _ (fun r => absurd r.1 (by decide))), h.2.1, h.2.2⟩
theorem mTk.goM {M M' : mA} {p p' k : Nat} (h : mTk P T m M p k) (hf : fM M M' [23, 24, 25, 26, 31]) (he : mE9 P T m M' p') (hp : p ≤ p') (ha : M' 0 0 31 = 0 → M 0 0 31 = 0) : mTk P T m M' p' k := by
  refine ⟨he, fun q => ?_, h.2.2⟩
  obtain ⟨a1, a2, a3⟩ := h.2.1 (ha q)
  rw [hf 0 0 29 (fun r => absurd r.2.2 (by decide)), hf 0 0 28 (fun r => absurd r.2.2 (by decide))]
  exact ⟨a1, by omega, a3⟩
theorem m_advS {M : mA} {p k : Nat} (h : mTk P T m M p k) (h31 : M 0 0 31 = 0) : ∃ M', f_Mo_next M = some (0, M') ∧ fM M M' [23, 24, 25, 26, 31] ∧ mTk P T m M' (tkE (kTok T m p)) k := by
  obtain ⟨g1, g2, g3, -⟩ := h.1.good
  obtain ⟨M1, x1, x2, x3⟩ := m_adv h.1.1 h.1.2.1 h31 h.1.2.2.1 (by have := h.1.2.2.2; omega)
  exact ⟨M1, x1, x2, h.goM x2 x3 (by omega) (fun _ => h31)⟩
/-- a method reads steps as this says -/
def mRs (P : Nat) (T : Nat → Int) (m d k : Nat) (M M' : mA) (r : kR (List kS)) : Prop := fT P k M M' ∧ kCase r (fun b => M' 0 0 31 = 1 ∧ M' 0 0 24 = b) (fun x => mTk P T m M' x.1 (k + x.2.length) ∧ M' 0 0 27 = 4 - d ∧ (M' 0 0 31 = 0 → mAll P M' k x.2))
def mBr (P : Nat) (T : Nat → Int) (m d : Nat) (fn : mA → Option (Int × mA)) (f : Nat → Nat → kR (List kS)) : Prop := ∀ M p k, mTk P T m M p k → M 0 0 27 = 4 - d → ∃ M', fn M = some (0, M') ∧ mRs P T m d k M M' (f k p)
theorem mk_blk {stp : mA → Option (Int × mA)} {f : Nat → Nat → kR (List kS)} (hs : mBr P T m d stp f) (hf : kPs m f) : ∀ (r n p k : Nat) (M : mA), m < p + r → r < n → mTk P T m M p k → M 0 0 27 = 4 - d → ∃ M', f_Mo_block_4 stp n M = some (0, M') ∧ mRs P T m d k M M' (kBlk T m f r k p) := by
  intro r
  induction r with
  | zero => intro n p k M h1 h2 h3 h4; exact absurd h3.1.2.2.1 (by omega)
  | succ r ih =>
    intro n p k M h1 h2 h3 h4
    obtain ⟨n, rfl⟩ : ∃ q, n = q + 1 := ⟨n - 1, by omega⟩
    obtain ⟨g1, g2, g3, g4, g5, g6, -⟩ := h3.1.good
    rw [f_Mo_block_4, m_isSign h3.1 (by decide), obind, if_pos (by show g32 (if kSg (kTok T m p) 59 then 1 else 0); exact g32_if _)]
    by_cases q : kSg (kTok T m p) 59
    · have h31 := h3.1.alive (by rw [q.1]; decide)
      have g7 := g4.resolve_left (by rw [q.1]; decide)
      rw [if_neg (fun h => (if0 _).mp h q)]
      obtain ⟨M1, x1, x2, x3⟩ := m_advS h3 h31
      show ∃ M', Option.bind (f_Mo_next M) _ = _ ∧ _
      rw [x1, obind]
      show ∃ M', Option.bind (stp M1) _ = _ ∧ _
      obtain ⟨M2, y1, y2, y4⟩ := hs M1 _ k x3 ((x2 0 0 27 (fun r => absurd r.2.2 (by decide))).trans h4)
      have f2 : fT P k M M2 := (fT.ofM x2 (by decide)).trans y2 (Nat.le_refl k)
      rw [y1, obind]
      show ∃ M', f_Mo_block_4 stp n M2 = _ ∧ _
      unfold kBlk
      rw [if_pos q]
      cases hq : f k (tkE (kTok T m p)) with
      | inl b =>
        rw [hq] at y4
        obtain ⟨n, rfl⟩ : ∃ q, n = q + 1 := ⟨n - 1, by omega⟩
        refine ⟨M2, ?_, f2, y4⟩
        rw [f_Mo_block_4, m_dead y4.1, obind, if_pos (by show g32 0; decide), if_pos (by show (0 : Int) = 0; rfl)]
      | inr x =>
        rw [hq] at y4
        obtain ⟨w2, w3, w4⟩ := y4
        obtain ⟨b1, b2, b3, b4⟩ := hf _ _ g3 x hq
        obtain ⟨M3, v1, v2, v4⟩ := ih n x.1 (k + x.2.length) M2 (by omega) (by omega) w2 w3
        refine ⟨M3, v1, f2.trans v2 (by omega), ?_⟩
        dsimp only
        cases hq2 : kBlk T m f r (k + x.2.length) x.1 with
        | inl b =>
          rw [hq2] at v4
          exact v4
        | inr y =>
          rw [hq2] at v4
          obtain ⟨u2, u3, u4⟩ := v4
          have e : k + (x.2 ++ y.2).length = k + x.2.length + y.2.length := by
            rw [List.length_append]
            omega
          refine ⟨?_, u3, fun q9 => ?_⟩
          · show mTk P T m M3 y.1 (k + (x.2 ++ y.2).length)
            rw [e]
            exact u2
          · have a2 : M2 0 0 31 = 0 := by
              rcases w2.1.w with w | w
              · exact w.1
              · exfalso
                have hn : ¬ kSg (kTok T m x.1) 59 := fun r => absurd r.1 (by rw [w.2]; decide)
                obtain ⟨n, rfl⟩ : ∃ q, n = q + 1 := ⟨n - 1, by omega⟩
                rw [f_Mo_block_4, m_dead w.1, obind, if_pos (by show g32 0; decide), if_pos (by show (0 : Int) = 0; rfl)] at v1
                have e9 : M2 = M3 := congrArg Prod.snd (Option.some.inj v1)
                rw [← e9, w.1] at q9
                exact absurd q9 (by decide)
            exact ((w4 a2).keep v2 (Nat.le_refl _)).app (u4 q9)
    · rw [if_pos ((if0 _).mpr q)]
      unfold kBlk
      rw [if_neg q, if_neg q]
      exact ⟨M, rfl, fT.refl, h3, h4, fun _ => mAll.nil⟩
theorem m_block {stp : mA → Option (Int × mA)} {f : Nat → Nat → kR (List kS)} (hs : mBr P T m d stp f) (hf : kPs m f) : mBr P T m d (f_Mo_block stp) (kBlock T m f) := by
  intro M p k h h4
  have h120 := h.1.1.tx.1
  obtain ⟨M2, y1, y2, y4⟩ := hs M p k h h4
  unfold f_Mo_block
  rw [y1, obind]
  show ∃ M', f_Mo_block_4 stp 200 M2 = _ ∧ _
  unfold kBlock
  cases hq : f k p with
  | inl b =>
    rw [hq] at y4
    refine ⟨M2, ?_, y2, y4⟩
    rw [f_Mo_block_4, m_dead y4.1, obind, if_pos (by show g32 0; decide), if_pos (by show (0 : Int) = 0; rfl)]
  | inr x =>
    rw [hq] at y4
    obtain ⟨w2, w3, w4⟩ := y4
    obtain ⟨b1, b2, b3, b4⟩ := hf _ _ h.1.2.2.1 x hq
    obtain ⟨M3, v1, v2, v4⟩ := mk_blk hs hf 121 200 x.1 (k + x.2.length) M2 (by omega) (by omega) w2 w3
    refine ⟨M3, v1, y2.trans v2 (by omega), ?_⟩
    dsimp only
    cases hq2 : kBlk T m f 121 (k + x.2.length) x.1 with
    | inl b =>
      rw [hq2] at v4
      exact v4
    | inr y =>
      rw [hq2] at v4
      obtain ⟨u2, u3, u4⟩ := v4
      have e : k + (x.2 ++ y.2).length = k + x.2.length + y.2.length := by
        rw [List.length_append]
        omega
      refine ⟨?_, u3, fun q9 => ?_⟩
      · show mTk P T m M3 y.1 (k + (x.2 ++ y.2).length)
        rw [e]
        exact u2
      · have a2 : M2 0 0 31 = 0 := by
          rcases w2.1.w with w | w
          · exact w.1
          · exfalso
            rw [f_Mo_block_4, m_dead w.1, obind, if_pos (by show g32 0; decide), if_pos (by show (0 : Int) = 0; rfl)] at v1
            have e9 : M2 = M3 := congrArg Prod.snd (Option.some.inj v1)
            rw [← e9, w.1] at q9
            exact absurd q9 (by decide)
        exact ((w4 a2).keep v2 (Nat.le_refl _)).app (u4 q9)
end MS
