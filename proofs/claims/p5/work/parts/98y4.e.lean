/-! TOKENS of the reference (own work) -/
def bM (M : mA) (T : Nat → Int) (m : Nat) : Prop := M 0 0 22 = m ∧ m ≤ 120 ∧ ∀ j, j < 120 → M 9 0 j = T j ∧ 0 ≤ T j ∧ T j ≤ 255
def fM (M M' : mA) (s : List Nat) : Prop := ∀ f k j, ¬ (f = 0 ∧ k = 0 ∧ j ∈ s) → M' f k j = M f k j
theorem fM.refl {M : mA} {s : List Nat} : fM M M s := fun _ _ _ _ => rfl
theorem fM.trans {M M' M'' : mA} {s : List Nat} (h : fM M M' s) (h' : fM M' M'' s) : fM M M'' s := fun f k j q => (h' f k j q).trans (h f k j q)
theorem fM.mu {M : mA} {j : Nat} {z : Int} {s : List Nat} (h : j ∈ s) : fM M (mu M 0 0 j z) s := fun f k j' q => by
  rw [mu_r, if_neg]
  rintro ⟨rfl, rfl, rfl⟩
  exact q ⟨rfl, rfl, h⟩
theorem fM.sub {M M' : mA} {s s' : List Nat} (h : fM M M' s) (hs : ∀ j, j ∈ s → j ∈ s') : fM M M' s' := fun f k j q => h f k j (fun r => q ⟨r.1, r.2.1, hs j r.2.2⟩)
theorem bM.fr {M M' : mA} {T : Nat → Int} {m : Nat} {s : List Nat} (h : bM M T m) (hf : fM M M' s) (h0 : 22 ∉ s) : bM M' T m := by
  refine ⟨by rw [hf 0 0 22 (fun r => h0 r.2.2)]; exact h.1, h.2.1, fun j hj => ?_⟩
  rw [hf 9 _ j (fun r => absurd r.1 (by decide))]
  exact h.2.2 j hj
theorem m_byteAt {M : mA} {T : Nat → Int} {m p : Nat} {x : Int} (h : bM M T m) (hx : x = p) (hp : p ≤ m) : f_Mo_byteAt M x = some (if p < m then T p else -1, M) := by
  obtain ⟨h1, h2, h3⟩ := h
  subst hx
  unfold f_Mo_byteAt
  rw [if_pos (by unfold g32; omega), if_pos (by unfold g32; omega)]
  by_cases c : p < m
  · rw [if_neg (by omega), if_pos (by omega), if_pos c, Int.toNat_natCast, (h3 p (by omega)).1]
  · rw [if_pos (by omega), if_neg c]
theorem m_in {M : mA} {x lo hi : Int} (h : -1 ≤ x ∧ x ≤ 255) (h1 : 0 ≤ lo ∧ lo ≤ 255) (h2 : 0 ≤ hi ∧ hi ≤ 255) : f_Mo_in M x lo hi = some (if lo ≤ x ∧ x ≤ hi then 1 else 0, M) := by
  unfold f_Mo_in
  rw [if_pos (by unfold g32; omega), if_pos (by unfold g32; omega)]
  by_cases a : x < lo
  · rw [if_pos a, if_neg (by omega)]
  · rw [if_neg a, if_pos (by unfold g32; omega)]
    by_cases b : hi < x
    · rw [if_pos b, if_neg (by omega)]
    · rw [if_neg b, if_pos (by omega)]
theorem m_word20 {T : Nat → Int} {m b a i : Nat} {M : mA} (hM : bM M T m) (h24 : M 0 0 24 = b) (hi : i < 13) (hl : jlen.getD i 0 = a - b) (hba : b ≤ a) (ham : a ≤ m) : ∀ (r n k : Nat), k + r = jlen.getD i 0 → r < n → (∀ j, k ≤ j → j < jlen.getD i 0 → Int32.ofInt (T (b + j)) = (jbyt.getD i []).getD j 0) ∧ f_Mo_isWord_20 n M i k = some (1, M) ∨ (∃ j, j < jlen.getD i 0 ∧ ¬ Int32.ofInt (T (b + j)) = (jbyt.getD i []).getD j 0) ∧ f_Mo_isWord_20 n M i k = some (0, M) := by
  have hl9 := jlen_lt i hi
  have h120 := hM.2.1
  intro r
  induction r with
  | zero =>
    intro n k hk hn
    obtain ⟨n, rfl⟩ : ∃ q, n = q + 1 := ⟨n - 1, by omega⟩
    refine Or.inl ⟨fun j h1 h2 => absurd h1 (by omega), ?_⟩
    rw [f_Mo_isWord_20, if_pos (by unfold g32; omega), if_pos (by unfold g32; omega), if_pos (by omega)]
  | succ r ih =>
    intro n k hk hn
    obtain ⟨n, rfl⟩ : ∃ q, n = q + 1 := ⟨n - 1, by omega⟩
    have h9 := (hM.2.2 (b + k) (by omega)).2
    have e1 : f_Mo_isWord_20 (n + 1) M i k = if ((jbyt.getD i []).getD k 0).toInt = T (b + k) then f_Mo_isWord_20 n M i ((k + 1 : Nat) : Int) else some (0, M) := by
      rw [f_Mo_isWord_20, if_pos (by unfold g32; omega), if_pos (by unfold g32; omega), if_neg (by omega), if_pos (by omega), h24, m_byteAt (p := b + k) (x := (b : Int) + (k : Int)) hM (by omega) (by omega), obind, if_pos (by unfold g32; exact ⟨jlo _, by have := jhi ((jbyt.getD i []).getD ((k : Int)).toNat 0); omega⟩), if_pos (by show g32 (if b + k < m then T (b + k) else -1); rw [if_pos (by omega)]; unfold g32; omega)]
      show (if _ = (if b + k < m then T (b + k) else -1) then _ else _) = _
      rw [if_pos (show b + k < m by omega), Int.toNat_natCast]
      rfl
    have e2 : Int32.ofInt (T (b + k)) = (jbyt.getD i []).getD k 0 ↔ ((jbyt.getD i []).getD k 0).toInt = T (b + k) := by
      rw [jeq, iR (by omega)]
      exact eq_comm
    rw [e1]
    by_cases c : ((jbyt.getD i []).getD k 0).toInt = T (b + k)
    · rw [if_pos c]
      rcases ih n (k + 1) (by omega) (by omega) with ⟨x1, x2⟩ | ⟨x1, x2⟩
      · refine Or.inl ⟨fun j q1 q2 => ?_, x2⟩
        by_cases q : j = k
        · rw [q]
          exact e2.mpr c
        · exact x1 j (by omega) q2
      · exact Or.inr ⟨x1, x2⟩
    · rw [if_neg c]
      exact Or.inr ⟨⟨k, by omega, fun h => c (e2.mp h)⟩, rfl⟩
theorem m_isWord {T : Nat → Int} {m b a i : Nat} {M : mA} (hM : bM M T m) (h24 : M 0 0 24 = b) (h23 : M 0 0 23 = a) (hi : i < 13) (hba : b ≤ a) (ham : a ≤ m) : f_Mo_isWord M i = some (if kSpelt T i b a m = true then 1 else 0, M) := by
  have hl9 := jlen_lt i hi
  have h120 := hM.2.1
  unfold f_Mo_isWord
  rw [h24, h23, if_pos (by unfold g32; omega), if_pos (by unfold g32; omega)]
  by_cases c : ((jlen.getD i 0 : Nat) : Int) = (a : Int) - b
  · rw [if_pos c]
    have hs : kSpelt T i b a m = true ↔ ∀ j, j < jlen.getD i 0 → Int32.ofInt (T (b + j)) = (jbyt.getD i []).getD j 0 := by
      constructor
      · intro h
        exact fun j hj => (kSpelt_len h).2 j hj
      · intro h
        unfold kSpelt
        rw [Bool.and_eq_true, Bool.and_eq_true, Bool.and_eq_true, decide_eq_true_iff, decide_eq_true_iff, decide_eq_true_iff, List.all_eq_true]
        exact ⟨⟨⟨c, by omega⟩, by omega⟩, fun j hj => decide_eq_true (h j (List.mem_range.mp hj))⟩
    rcases m_word20 hM h24 hi (by omega) hba ham (jlen.getD i 0) 1000 0 (by omega) (by omega) with ⟨x1, x2⟩ | ⟨⟨j, y1, y2⟩, x2⟩
    · rw [if_pos (hs.mpr (fun j hj => x1 j (by omega) hj))]
      exact x2
    · rw [if_neg (fun h => y2 (hs.mp h j y1))]
      exact x2
  · rw [if_neg c, if_neg (fun h => c (kSpelt_len h).1)]
theorem m_wordRead {T : Nat → Int} {m b a : Nat} {M : mA} (hM : bM M T m) (h24 : M 0 0 24 = b) (h23 : M 0 0 23 = a) (hba : b ≤ a) (ham : a ≤ m) : f_Mo_wordRead M = some (kKind T b a m, M) := by
  have w : ∀ i, i < 13 → f_Mo_isWord M i = some (if kSpelt T i b a m = true then 1 else 0, M) := fun i hi => m_isWord hM h24 h23 hi hba ham
  have g : ∀ c : Prop, [Decidable c] → g32 (if c then 1 else 0) := fun c _ => by
    by_cases h : c
    · rw [if_pos h]; decide
    · rw [if_neg h]; decide
  have z : ∀ c : Prop, [Decidable c] → ((if c then (1 : Int) else 0) = 0 ↔ ¬ c) := fun c _ => by
    by_cases h : c
    · rw [if_pos h]; exact ⟨fun q => absurd q (by decide), fun q => absurd h q⟩
    · rw [if_neg h]; exact ⟨fun _ => h, fun _ => rfl⟩
  unfold f_Mo_wordRead kKind
  have s : ∀ i, i < 6 → kSpelt T (i + 6) b a m = kSpelt T i b a m := fun i hi => by
    match i, hi with
    | 0, _ => rfl
    | 1, _ => rfl
    | 2, _ => rfl
    | 3, _ => rfl
    | 4, _ => rfl
    | 5, _ => rfl
  rw [w 6 (by omega), obind, if_pos (g _)]
  show (if (if kSpelt T 6 b a m = true then (1 : Int) else 0) = 0 then Option.bind (f_Mo_isWord M 7) _ else some (0, M)) = _
  rw [s 0 (by omega)]
  by_cases c0 : kSpelt T 0 b a m = true
  · rw [if_neg (fun h => (z _).mp h c0), if_pos c0]
  rw [if_pos ((z _).mpr c0), if_neg c0, w 7 (by omega), obind, if_pos (g _)]
  show (if (if kSpelt T 7 b a m = true then (1 : Int) else 0) = 0 then Option.bind (f_Mo_isWord M 8) _ else some (1, M)) = _
  rw [s 1 (by omega)]
  by_cases c1 : kSpelt T 1 b a m = true
  · rw [if_neg (fun h => (z _).mp h c1), if_pos c1]
  rw [if_pos ((z _).mpr c1), if_neg c1, w 8 (by omega), obind, if_pos (g _)]
  show (if (if kSpelt T 8 b a m = true then (1 : Int) else 0) = 0 then Option.bind (f_Mo_isWord M 9) _ else some (2, M)) = _
  rw [s 2 (by omega)]
  by_cases c2 : kSpelt T 2 b a m = true
  · rw [if_neg (fun h => (z _).mp h c2), if_pos c2]
  rw [if_pos ((z _).mpr c2), if_neg c2, w 9 (by omega), obind, if_pos (g _)]
  show (if (if kSpelt T 9 b a m = true then (1 : Int) else 0) = 0 then Option.bind (f_Mo_isWord M 10) _ else some (3, M)) = _
  rw [s 3 (by omega)]
  by_cases c3 : kSpelt T 3 b a m = true
  · rw [if_neg (fun h => (z _).mp h c3), if_pos c3]
  rw [if_pos ((z _).mpr c3), if_neg c3, w 10 (by omega), obind, if_pos (g _)]
  show (if (if kSpelt T 10 b a m = true then (1 : Int) else 0) = 0 then Option.bind (f_Mo_isWord M 11) _ else some (4, M)) = _
  rw [s 4 (by omega)]
  by_cases c4 : kSpelt T 4 b a m = true
  · rw [if_neg (fun h => (z _).mp h c4), if_pos c4]
  rw [if_pos ((z _).mpr c4), if_neg c4, w 11 (by omega), obind, if_pos (g _)]
  show (if (if kSpelt T 11 b a m = true then (1 : Int) else 0) = 0 then some (-1, M) else some (5, M)) = _
  rw [s 5 (by omega)]
  by_cases c5 : kSpelt T 5 b a m = true
  · rw [if_neg (fun h => (z _).mp h c5), if_pos c5]
  · rw [if_pos ((z _).mpr c5), if_neg c5]
theorem jsig : ∀ n, n < 256 → (0 ≤ jIx 12 ((n : Nat) : Int) ↔ kSgn ((n : Nat) : Int)) := by decide +kernel
