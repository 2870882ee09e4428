/-! TOKENS, class and reference alike (own work): a pure reader of tokens -/
theorem mu_r (A : mA) (f k j : Nat) (z : Int) (f' k' j' : Nat) : mu A f k j z f' k' j' = if f' = f ∧ k' = k ∧ j' = j then z else A f' k' j' := by
  by_cases h : f' = f ∧ k' = k ∧ j' = j
  · rw [if_pos h]
    obtain ⟨rfl, rfl, rfl⟩ := h
    exact mu_at A _ _ _ z
  · rw [if_neg h, mu_ne A z h]
theorem if_p {α : Type} {c : Prop} [Decidable c] {a b : α} (k : c) : (if c then a else b) = a := if_pos k
def kSkip (T : Nat → Int) (m : Nat) : Nat → Nat → Nat
  | 0, p => p
  | n + 1, p => if p < m ∧ (T p = 32 ∨ T p = 10) then kSkip T m n (p + 1) else p
def kRun (T : Nat → Int) (m : Nat) (lo hi : Int) : Nat → Nat → Nat
  | 0, p => p
  | n + 1, p => if p < m ∧ (lo ≤ T p ∧ T p ≤ hi) then kRun T m lo hi n (p + 1) else p
theorem kSkip_le {T : Nat → Int} {m : Nat} : ∀ d p, p ≤ m → p ≤ kSkip T m d p ∧ kSkip T m d p ≤ m := by
  intro d
  induction d with
  | zero => intro p hp; exact ⟨Nat.le_refl _, hp⟩
  | succ d ih =>
    intro p hp
    unfold kSkip
    split
    · rename_i h
      obtain ⟨a, b⟩ := ih (p + 1) (by omega)
      exact ⟨by omega, b⟩
    · exact ⟨Nat.le_refl _, hp⟩
theorem kSkip_end {T : Nat → Int} {m : Nat} : ∀ d p, m ≤ p + d → ¬ (kSkip T m d p < m ∧ (T (kSkip T m d p) = 32 ∨ T (kSkip T m d p) = 10)) := by
  intro d
  induction d with
  | zero => intro p hp h; exact absurd h.1 (by show ¬ p < m; omega)
  | succ d ih =>
    intro p hp
    unfold kSkip
    split
    · exact ih (p + 1) (by omega)
    · assumption
theorem kRun_le {T : Nat → Int} {m : Nat} {lo hi : Int} : ∀ d p, p ≤ m → p ≤ kRun T m lo hi d p ∧ kRun T m lo hi d p ≤ m := by
  intro d
  induction d with
  | zero => intro p hp; exact ⟨Nat.le_refl _, hp⟩
  | succ d ih =>
    intro p hp
    unfold kRun
    split
    · rename_i h
      obtain ⟨a, b⟩ := ih (p + 1) (by omega)
      exact ⟨by omega, b⟩
    · exact ⟨Nat.le_refl _, hp⟩
theorem kRun_end {T : Nat → Int} {m : Nat} {lo hi : Int} : ∀ d p, m ≤ p + d → ¬ (kRun T m lo hi d p < m ∧ (lo ≤ T (kRun T m lo hi d p) ∧ T (kRun T m lo hi d p) ≤ hi)) := by
  intro d
  induction d with
  | zero => intro p hp h; exact absurd h.1 (by show ¬ p < m; omega)
  | succ d ih =>
    intro p hp
    unfold kRun
    split
    · exact ih (p + 1) (by omega)
    · assumption
/-- the class's reader stands over this text -/
def bC (C : mA) (o : Nat) (T : Nat → Int) (m : Nat) : Prop := 0 ≤ C 3 o 0 ∧ C 3 o 1 = m ∧ m ≤ 120 ∧ ∀ j, j < 120 → C 20 (C 3 o 0).toNat j = T j ∧ 0 ≤ T j ∧ T j ≤ 255
/-- changed at most at these places of the reader -/
def fC (C C' : mA) (o : Nat) (s : List Nat) : Prop := ∀ f k j, ¬ (f = 3 ∧ k = o ∧ j ∈ s) → C' f k j = C f k j
theorem fC.refl {C : mA} {o : Nat} {s : List Nat} : fC C C o s := fun _ _ _ _ => rfl
theorem fC.trans {C C' C'' : mA} {o : Nat} {s : List Nat} (h : fC C C' o s) (h' : fC C' C'' o s) : fC C C'' o s := fun f k j q => (h' f k j q).trans (h f k j q)
theorem fC.mu {C : mA} {o j : Nat} {z : Int} {s : List Nat} (h : j ∈ s) : fC C (mu C 3 o j z) o s := fun f k j' q => by
  rw [mu_r, if_neg]
  rintro ⟨rfl, rfl, rfl⟩
  exact q ⟨rfl, rfl, h⟩
theorem fC.sub {C C' : mA} {o : Nat} {s s' : List Nat} (h : fC C C' o s) (hs : ∀ j, j ∈ s → j ∈ s') : fC C C' o s' := fun f k j q => h f k j (fun r => q ⟨r.1, r.2.1, hs j r.2.2⟩)
theorem bC.fr {C C' : mA} {o : Nat} {T : Nat → Int} {m : Nat} {s : List Nat} (h : bC C o T m) (hf : fC C C' o s) (h0 : 0 ∉ s) (h1 : 1 ∉ s) : bC C' o T m := by
  have e0 : C' 3 o 0 = C 3 o 0 := hf 3 o 0 (fun r => h0 r.2.2)
  have e1 : C' 3 o 1 = C 3 o 1 := hf 3 o 1 (fun r => h1 r.2.2)
  refine ⟨by rw [e0]; exact h.1, by rw [e1]; exact h.2.1, h.2.2.1, fun j hj => ?_⟩
  rw [e0, hf 20 _ j (fun r => absurd r.1 (by decide))]
  exact h.2.2.2 j hj
theorem c_byteAt {C : mA} {o : Nat} {T : Nat → Int} {m p : Nat} {x : Int} (h : bC C o T m) (hx : x = p) (hp : p < m) : f_Read_byteAt C o x = some (T p, C) := by
  obtain ⟨h0, h1, h2, h3⟩ := h
  subst hx
  unfold f_Read_byteAt
  rw [if_pos (by unfold g32; omega), if_neg (by omega), if_pos (by unfold g32; omega), if_neg (by omega), if_pos h0, if_pos (by omega), Int.toNat_natCast, (h3 p (by omega)).1]
theorem c_isLetter {C : mA} {x : Int} (h : -1 ≤ x ∧ x ≤ 255) : f_Read_isLetter C x = some (if 97 ≤ x ∧ x ≤ 122 then 1 else 0, C) := by
  unfold f_Read_isLetter
  rw [if_pos (by unfold g32; omega)]
  by_cases a : x < 97
  · rw [if_pos a, if_neg (by omega)]
  · rw [if_neg a]
    by_cases b : 122 < x
    · rw [if_pos b, if_neg (by omega)]
    · rw [if_neg b, if_pos (by omega)]
theorem c_isDigit {C : mA} {x : Int} (h : -1 ≤ x ∧ x ≤ 255) : f_Read_isDigit C x = some (if 48 ≤ x ∧ x ≤ 57 then 1 else 0, C) := by
  unfold f_Read_isDigit
  rw [if_pos (by unfold g32; omega)]
  by_cases a : x < 48
  · rw [if_pos a, if_neg (by omega)]
  · rw [if_neg a]
    by_cases b : 57 < x
    · rw [if_pos b, if_neg (by omega)]
    · rw [if_neg b, if_pos (by omega)]
theorem obind {α β : Type} {f : α → Option β} {q : α} : Option.bind (some q) f = f q := rfl
/-- the letters' loop -/
theorem c_word0 {o : Nat} {T : Nat → Int} {m : Nat} : ∀ (d n p : Nat) (C : mA), bC C o T m → C 3 o 4 = p → p ≤ m → m ≤ p + d → d < n → ∃ (C' : mA) (k : Nat), fC C C' o [4] ∧ C' 3 o 4 = ((kRun T m 97 122 d p : Nat) : Int) ∧ f_Read_takeWord_0 n C o = f_Read_takeWord_0 (k + 1) C' o := by
  intro d
  induction d with
  | zero => intro n p C hb hp h1 h2 h3; exact ⟨C, n - 1, fC.refl, hp, by rw [Nat.sub_add_cancel (by omega)]⟩
  | succ d ih =>
    intro n p C hb hp h1 h2 h3
    have hB := hb
    obtain ⟨h0, hm, h4, h5⟩ := hb
    unfold kRun
    by_cases c : p < m ∧ (97 ≤ T p ∧ T p ≤ 122)
    · rw [if_pos c]
      have h9 := (h5 p (by omega)).2
      obtain ⟨n, rfl⟩ : ∃ k, n = k + 1 := ⟨n - 1, by omega⟩
      have f1 : fC C (mu C 3 o 4 ((p + 1 : Nat) : Int)) o [4] := fC.mu List.mem_cons_self
      obtain ⟨C', k, a, b, e⟩ := ih n (p + 1) (mu C 3 o 4 ((p + 1 : Nat) : Int)) (hB.fr f1 (by decide) (by decide)) (mu_at _ _ _ _ _) (by omega) (by omega) (by omega)
      refine ⟨C', k, f1.trans a, b, ?_⟩
      rw [← e]
      show f_Read_takeWord_0 (n + 1) C o = _
      rw [f_Read_takeWord_0, hp, hm, if_pos (by unfold g32; omega), if_pos (by unfold g32; omega), if_neg (by omega), c_byteAt hB rfl c.1, obind, c_isLetter (by omega), obind, if_pos c.2, if_pos (by show g32 1; decide), if_neg (by show ¬ (1 : Int) = 0; decide)]
      show f_Read_takeWord_0 n (mu C 3 o 4 (C 3 o 4 + 1)) o = _
      rw [hp]
      rfl
    · rw [if_neg c]
      exact ⟨C, n - 1, fC.refl, hp, by rw [Nat.sub_add_cancel (by omega)]⟩
/-- the figures' loop -/
theorem c_num0 {o : Nat} {T : Nat → Int} {m : Nat} : ∀ (d n p : Nat) (C : mA), bC C o T m → C 3 o 4 = p → p ≤ m → m ≤ p + d → d < n → ∃ (C' : mA) (k : Nat), fC C C' o [4] ∧ C' 3 o 4 = ((kRun T m 48 57 d p : Nat) : Int) ∧ f_Read_takeNumber_0 n C o = f_Read_takeNumber_0 (k + 1) C' o := by
  intro d
  induction d with
  | zero => intro n p C hb hp h1 h2 h3; exact ⟨C, n - 1, fC.refl, hp, by rw [Nat.sub_add_cancel (by omega)]⟩
  | succ d ih =>
    intro n p C hb hp h1 h2 h3
    have hB := hb
    obtain ⟨h0, hm, h4, h5⟩ := hb
    unfold kRun
    by_cases c : p < m ∧ (48 ≤ T p ∧ T p ≤ 57)
    · rw [if_pos c]
      have h9 := (h5 p (by omega)).2
      obtain ⟨n, rfl⟩ : ∃ k, n = k + 1 := ⟨n - 1, by omega⟩
      have f1 : fC C (mu C 3 o 4 ((p + 1 : Nat) : Int)) o [4] := fC.mu List.mem_cons_self
      obtain ⟨C', k, a, b, e⟩ := ih n (p + 1) (mu C 3 o 4 ((p + 1 : Nat) : Int)) (hB.fr f1 (by decide) (by decide)) (mu_at _ _ _ _ _) (by omega) (by omega) (by omega)
      refine ⟨C', k, f1.trans a, b, ?_⟩
      rw [← e]
      show f_Read_takeNumber_0 (n + 1) C o = _
      rw [f_Read_takeNumber_0, hp, hm, if_pos (by unfold g32; omega), if_pos (by unfold g32; omega), if_neg (by omega), c_byteAt hB rfl c.1, obind, c_isDigit (by omega), obind, if_pos c.2, if_pos (by show g32 1; decide), if_neg (by show ¬ (1 : Int) = 0; decide)]
      show f_Read_takeNumber_0 n (mu C 3 o 4 (C 3 o 4 + 1)) o = _
      rw [hp]
      rfl
    · rw [if_neg c]
      exact ⟨C, n - 1, fC.refl, hp, by rw [Nat.sub_add_cancel (by omega)]⟩

theorem kSpelt_congr {T T' : Nat → Int} {i : Nat} {b a n : Int} (hi : i < 13) (hb : 0 ≤ b ∧ b ≤ 120) (ha : 0 ≤ a ∧ a ≤ 120) (hn : 0 ≤ n ∧ n ≤ 120) (h : ∀ j, j < 120 → T j = T' j) : kSpelt T i b a n = kSpelt T' i b a n := by
  rw [Bool.eq_iff_iff, ← kSpelt_ok (f := fun j => Int32.ofInt (T j)) hi hb ha hn (fun j _ => rfl), ← kSpelt_ok (T := T') (f := fun j => Int32.ofInt (T j)) hi hb ha hn (fun j hj => by show Int32.ofInt (T j) = _; rw [h j hj])]
theorem jhead : ∀ i, i < 6 → ∀ j, j < 6 → jlen.getD i 0 = jlen.getD j 0 → (jbyt.getD i []).getD 0 0 = (jbyt.getD j []).getD 0 0 → i = j := by decide
theorem jlen0 : ∀ i, i < 13 → 1 < jlen.getD i 0 := by decide
theorem kSpelt_len {T : Nat → Int} {i : Nat} {b a n : Int} (h : kSpelt T i b a n = true) : ((jlen.getD i 0 : Nat) : Int) = a - b ∧ ∀ j, j < jlen.getD i 0 → Int32.ofInt (T (b.toNat + j)) = (jbyt.getD i []).getD j 0 := by
  unfold kSpelt at h
  rw [Bool.and_eq_true, Bool.and_eq_true, Bool.and_eq_true, decide_eq_true_iff, List.all_eq_true] at h
  exact ⟨h.1.1.1, fun j hj => of_decide_eq_true (h.2 j (List.mem_range.mpr hj))⟩
theorem kSpelt_one {T : Nat → Int} {i j : Nat} {b a n : Int} (hi : i < 6) (hj : j < 6) (h : kSpelt T i b a n = true) (h' : kSpelt T j b a n = true) : i = j := by
  obtain ⟨l1, b1⟩ := kSpelt_len h
  obtain ⟨l2, b2⟩ := kSpelt_len h'
  have e := jlen0 i (by omega)
  exact jhead i hi j hj (by omega) ((b1 0 (by omega)).symm.trans (b2 0 (by omega)))
/-- the words' loop -/
theorem c_word91 {o : Nat} {T : Nat → Int} {m b a : Nat} (hba : b ≤ a) (ham : a ≤ m) : ∀ (r n k : Nat) (C : mA), bC C o T m → C 3 o 6 = b → C 3 o 4 = a → k + r = 6 → r < n → ∃ C' : mA, f_Read_takeWord_91 n C o k = some (0, C') ∧ ((∀ i, k ≤ i → i < 6 → ¬ kSpelt T i b a m = true) ∧ C' = C ∨ ∃ i, k ≤ i ∧ i < 6 ∧ kSpelt T i b a m = true ∧ C' = mu (mu C 3 o 7 2) 3 o 8 i) := by
  intro r
  induction r with
  | zero =>
    intro n k C hb h6 h4 hk hn
    obtain ⟨n, rfl⟩ : ∃ q, n = q + 1 := ⟨n - 1, by omega⟩
    obtain rfl : k = 6 := by omega
    exact ⟨C, rfl, Or.inl ⟨fun i h1 h2 => absurd h1 (by omega), rfl⟩⟩
  | succ r ih =>
    intro n k C hb h6 h4 hk hn
    obtain ⟨n, rfl⟩ : ∃ q, n = q + 1 := ⟨n - 1, by omega⟩
    have hB := hb
    obtain ⟨h0, hm, h120, h5⟩ := hb
    have e1 : kSpelt (C 20 (C 3 o 0).toNat) ((k : Int)).toNat (C 3 o 6) (C 3 o 4) (C 3 o 1) = kSpelt T k b a m := by
      rw [h6, h4, hm, Int.toNat_natCast]
      exact kSpelt_congr (by omega) (by omega) (by omega) (by omega) (fun j hj => (h5 j hj).1)
    have hG : kSpG C o := ⟨h0, by rw [h6]; omega, by rw [h4]; omega, by rw [hm]; omega⟩
    have ek : ((k : Int)) + 1 = ((k + 1 : Nat) : Int) := rfl
    by_cases hs : kSpelt T k b a m = true
    · have fr : fC C (mu (mu C 3 o 7 2) 3 o 8 k) o [7, 8] := (fC.mu (by decide)).trans (fC.mu (by decide))
      obtain ⟨C', e, h⟩ := ih n (k + 1) (mu (mu C 3 o 7 2) 3 o 8 k) (hB.fr fr (by decide) (by decide)) ((fr 3 o 6 (fun r => absurd r.2.2 (by decide))).trans h6) ((fr 3 o 4 (fun r => absurd r.2.2 (by decide))).trans h4) (by omega) (by omega)
      refine ⟨C', ?_, Or.inr ⟨k, Nat.le_refl _, by omega, hs, ?_⟩⟩
      · rw [f_Read_takeWord_91, if_pos (by unfold g32; omega), if_neg (by omega), if_pos (by omega), if_pos hG, e1, if_pos hs, if_pos (by decide), if_neg (by decide), ek]
        exact e
      · rcases h with ⟨-, h⟩ | ⟨i, h1, h2, h3, -⟩
        · exact h
        · exact absurd (kSpelt_one (by omega) h2 hs h3) (by omega)
    · obtain ⟨C', e, h⟩ := ih n (k + 1) C hB h6 h4 (by omega) (by omega)
      refine ⟨C', ?_, ?_⟩
      · rw [f_Read_takeWord_91, if_pos (by unfold g32; omega), if_neg (by omega), if_pos (by omega), if_pos hG, e1, if_neg hs, if_pos (by decide), if_pos rfl, ek]
        exact e
      · rcases h with ⟨h1, h2⟩ | ⟨i, h1, h2, h3, h4⟩
        · refine Or.inl ⟨fun i q1 q2 => ?_, h2⟩
          by_cases q : i = k
          · rw [q]
            exact hs
          · exact h1 i (by omega) q2
        · exact Or.inr ⟨i, by omega, h2, h3, h4⟩
