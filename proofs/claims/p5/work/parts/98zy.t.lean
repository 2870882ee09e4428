/-! BLOCKS as rows of steps (own work) -/
/-- steps of one level from a to b, each with what is in it -/
def tl (c : Nat → kS) (L : Int) : Nat → Nat → Nat → Prop
  | 0, a, b => a = b
  | n + 1, a, b => a = b ∨ (a < b ∧ sV (c a) = L ∧ 1 ≤ sI (c a) ∧ a + sI (c a) ≤ b ∧ (∀ j, a < j → j < a + sI (c a) → L < sV (c j)) ∧ tl c L n (a + sI (c a)) b)
theorem tl_up {c : Nat → kS} {L : Int} : ∀ n a b, tl c L n a b → tl c L (n + 1) a b := by
  intro n
  induction n with
  | zero => intro a b h; exact Or.inl h
  | succ n ih =>
    intro a b h
    rcases h with h | ⟨h1, h2, h3, h4, h5, h6⟩
    · exact Or.inl h
    · exact Or.inr ⟨h1, h2, h3, h4, h5, ih _ _ h6⟩
theorem tl_add {c : Nat → kS} {L : Int} {n a b : Nat} (h : tl c L n a b) : ∀ k, tl c L (n + k) a b := by
  intro k
  induction k with
  | zero => exact h
  | succ k ih => exact tl_up _ _ _ ih
theorem tl_le {c : Nat → kS} {L : Int} : ∀ n a b, tl c L n a b → a ≤ b := by
  intro n
  cases n with
  | zero => intro a b h; exact Nat.le_of_eq h
  | succ n =>
    intro a b h
    rcases h with h | h
    · exact Nat.le_of_eq h
    · exact Nat.le_of_lt h.1
theorem tl_app {c : Nat → kS} {L : Int} : ∀ n k a b e, tl c L n a b → tl c L k b e → tl c L (n + k) a e := by
  intro n
  induction n with
  | zero =>
    intro k a b e h h'
    have h : a = b := h
    subst h
    rw [Nat.zero_add]
    exact h'
  | succ n ih =>
    intro k a b e h h'
    rcases h with h | ⟨h1, h2, h3, h4, h5, h6⟩
    · subst h
      have := tl_add h' (n + 1)
      rw [Nat.add_comm] at this
      exact this
    · have e1 : n + 1 + k = n + k + 1 := by omega
      rw [e1]
      exact Or.inr ⟨by have := tl_le _ _ _ h'; omega, h2, h3, by have := tl_le _ _ _ h'; omega, h5, ih _ _ _ _ h6 h'⟩
theorem tl_trim {c : Nat → kS} {L : Int} : ∀ n a b, tl c L n a b → tl c L (b - a) a b := by
  intro n
  induction n with
  | zero =>
    intro a b h
    have h : a = b := h
    rw [h, Nat.sub_self]
    rfl
  | succ n ih =>
    intro a b h
    rcases h with h | ⟨h1, h2, h3, h4, h5, h6⟩
    · rw [h, Nat.sub_self]
      rfl
    · have t := tl_add (ih _ _ h6) (sI (c a) - 1)
      have e : b - (a + sI (c a)) + (sI (c a) - 1) = b - a - 1 := by omega
      rw [e] at t
      obtain ⟨k, hk⟩ : ∃ k, b - a = k + 1 := ⟨b - a - 1, by omega⟩
      rw [hk] at t ⊢
      exact Or.inr ⟨h1, h2, h3, h4, h5, t⟩
/-- lots as they are told -/
def lotsOk (x : List (Int × Int)) : Prop := 1 ≤ x.length ∧ x.length ≤ 8 ∧ ∀ q ∈ x, (0 ≤ q.1 ∧ q.1 ≤ 9) ∧ (1 ≤ q.2 ∧ q.2 ≤ 16)
/-- a step and its blocks -/
def inn (others : Int) (c : Nat → kS) (i : Nat) : Prop :=
  (0 ≤ sK (c i) ∧ sK (c i) ≤ 5) ∧ (0 ≤ sV (c i) ∧ sV (c i) ≤ 4) ∧ 1 ≤ sI (c i) ∧
  (sK (c i) = 3 → sV (c i) ≤ 3 ∧ 1 ≤ sO (c i) ∧ sO (c i) ≤ sI (c i) ∧ tl c (sV (c i) + 1) 16 (i + 1) (i + sO (c i)) ∧ tl c (sV (c i) + 1) 16 (i + sO (c i)) (i + sI (c i))) ∧
  (sK (c i) = 4 → sV (c i) ≤ 3 ∧ (0 ≤ sU (c i) ∧ sU (c i) ≤ 9) ∧ tl c (sV (c i) + 1) 16 (i + 1) (i + sI (c i))) ∧
  (sK (c i) = 5 → 0 ≤ sU (c i) ∧ sU (c i) < others) ∧
  (sK (c i) = 0 → (0 < kBt (kSumW (sL (c i))) ∧ sU (c i) = (sL (c i)).length) ∧ lotsOk (sL (c i))) ∧
  (sN (c i) = -1 ∨ 0 ≤ sN (c i) ∧ sN (c i) ≤ 5)
def lay (c : Nat → kS) (a : Nat) (x : List kS) : Prop := ∀ j, j < x.length → c (a + j) = x.getD j kS0
def okS (others L : Int) (x : List kS) : Prop := ∀ (c : Nat → kS) (a : Nat), lay c a x → (1 ≤ x.length ∧ sV (c a) = L ∧ sI (c a) = x.length ∧ ∀ j, a < j → j < a + x.length → L < sV (c j)) ∧ ∀ i, a ≤ i → i < a + x.length → inn others c i ∧ i + sI (c i) ≤ a + x.length
def okB (others L : Int) (x : List kS) : Prop := ∀ (c : Nat → kS) (a : Nat), lay c a x → tl c L x.length a (a + x.length) ∧ (∀ j, a ≤ j → j < a + x.length → L ≤ sV (c j)) ∧ ∀ i, a ≤ i → i < a + x.length → inn others c i ∧ i + sI (c i) ≤ a + x.length
theorem lay.app1 {c : Nat → kS} {a : Nat} {x y : List kS} (h : lay c a (x ++ y)) : lay c a x := fun j hj => by
  have := h j (by rw [List.length_append]; omega)
  rw [List.getD_eq_getElem?_getD, List.getElem?_append_left hj, ← List.getD_eq_getElem?_getD] at this
  exact this
theorem lay.app2 {c : Nat → kS} {a : Nat} {x y : List kS} (h : lay c a (x ++ y)) : lay c (a + x.length) y := fun j hj => by
  have := h (x.length + j) (by rw [List.length_append]; omega)
  rw [List.getD_eq_getElem?_getD, List.getElem?_append_right (by omega), ← List.getD_eq_getElem?_getD] at this
  rw [Nat.add_assoc, this]
  congr 1
  omega
theorem lay.hd {c : Nat → kS} {a : Nat} {s : kS} {y : List kS} (h : lay c a (s :: y)) : c a = s := h 0 (Nat.succ_pos _)
theorem lay.tl {c : Nat → kS} {a : Nat} {s : kS} {y : List kS} (h : lay c a (s :: y)) : lay c (a + 1) y := fun j hj => by
  have := h (j + 1) (Nat.succ_lt_succ hj)
  have e : a + 1 + j = a + (j + 1) := by omega
  rw [e, this]
  rfl
theorem okB.nil {others L : Int} : okB others L [] := fun c a h => ⟨rfl, fun j h1 h2 => absurd h2 (by show ¬ j < a + 0; omega), fun i h1 h2 => absurd h2 (by show ¬ i < a + 0; omega)⟩
theorem okB.app {others L : Int} {x y : List kS} (h : okS others L x) (h' : okB others L y) : okB others L (x ++ y) := fun c a hl => by
  obtain ⟨⟨a1, a2, a3, a4⟩, a5⟩ := h c a hl.app1
  obtain ⟨b1, b2, b3⟩ := h' c (a + x.length) hl.app2
  rw [List.length_append, ← Nat.add_assoc]
  refine ⟨?_, fun j q1 q2 => ?_, fun i q1 q2 => ?_⟩
  · have t1 : tl c L x.length a (a + x.length) := by
      obtain ⟨n, hn⟩ : ∃ n, x.length = n + 1 := ⟨x.length - 1, by omega⟩
      rw [hn] at a3 a4 ⊢
      refine Or.inr ⟨by omega, a2, by omega, by omega, fun j q1 q2 => a4 j q1 (by omega), ?_⟩
      rw [a3]
      have z : tl c L 0 (a + (n + 1)) (a + (n + 1)) := rfl
      have := tl_add z n
      rw [Nat.zero_add] at this
      exact this
    exact tl_app _ _ _ _ _ t1 b1
  · by_cases q : j < a + x.length
    · by_cases q3 : j = a
      · rw [q3, a2]
        exact Int.le_refl _
      · exact Int.le_of_lt (a4 j (by omega) q)
    · exact b2 j (by omega) q2
  · by_cases q : i < a + x.length
    · obtain ⟨c1, c2⟩ := a5 i q1 q
      exact ⟨c1, by omega⟩
    · exact b3 i (by omega) q2
section KOK
variable {T : Nat → Int} {m : Nat} {others L : Int}
theorem kBlk_ok (h120 : m ≤ 120) (hT : ∀ j, j < 120 → 0 ≤ T j ∧ T j ≤ 255) {f : Nat → Nat → kR (List kS)} (hp9 : kPs m f) (hf : ∀ k p x, p ≤ m → f k p = .inr x → okS others L x.2) : ∀ n k p, p ≤ m → ∀ x, kBlk T m f n k p = .inr x → okB others L x.2 := by
  intro n
  induction n with
  | zero => intro k p hp x h; cases h; exact okB.nil
  | succ n ih =>
    intro k p hp x h
    obtain ⟨g1, g2, g3, g4, -⟩ := kTok_ok (T := T) h120 hT hp
    unfold kBlk at h
    by_cases c : kSg (kTok T m p) 59
    · rw [if_pos c] at h
      cases h1 : f k (tkE (kTok T m p)) with
      | inl b => rw [h1] at h; cases h
      | inr y =>
        rw [h1] at h
        obtain ⟨a1, a2, a3, a4⟩ := hp9 _ _ g3 y h1
        cases h2 : kBlk T m f n (k + y.2.length) y.1 with
        | inl b => simp only [h2] at h; cases h
        | inr z =>
          simp only [h2] at h
          have b := ih _ y.1 a2 z h2
          cases h
          exact okB.app (hf _ _ y g3 h1) b
    · rw [if_neg c] at h
      cases h
      exact okB.nil
theorem kBlock_ok (h120 : m ≤ 120) (hT : ∀ j, j < 120 → 0 ≤ T j ∧ T j ≤ 255) {f : Nat → Nat → kR (List kS)} (hp9 : kPs m f) (hf : ∀ k p x, p ≤ m → f k p = .inr x → okS others L x.2) : ∀ k p, p ≤ m → ∀ x, kBlock T m f k p = .inr x → okB others L x.2 := by
  intro k p hp x h
  unfold kBlock at h
  cases h1 : f k p with
  | inl b => rw [h1] at h; cases h
  | inr y =>
    rw [h1] at h
    obtain ⟨a1, a2, a3, a4⟩ := hp9 _ _ hp y h1
    cases h2 : kBlk T m f 121 (k + y.2.length) y.1 with
    | inl b => simp only [h2] at h; cases h
    | inr z =>
      simp only [h2] at h
      have b := kBlk_ok h120 hT hp9 hf 121 _ y.1 a2 z h2
      cases h
      exact okB.app (hf _ _ y hp h1) b
theorem kBrace_ok (h120 : m ≤ 120) (hT : ∀ j, j < 120 → 0 ≤ T j ∧ T j ≤ 255) {f : Nat → Nat → kR (List kS)} (hp9 : kPs m f) (hf : ∀ k p x, p ≤ m → f k p = .inr x → okS others L x.2) : ∀ k p, p ≤ m → ∀ x, kBrace T m f k p = .inr x → okB others L x.2 := by
  intro k p hp x h
  obtain ⟨g1, g2, g3, g4, -⟩ := kTok_ok (T := T) h120 hT hp
  unfold kBrace at h
  by_cases c : kSg (kTok T m p) 123
  · rw [if_pos c] at h
    cases h1 : kBlock T m f k (tkE (kTok T m p)) with
    | inl b => rw [h1] at h; cases h
    | inr y =>
      rw [h1] at h
      have b := kBlock_ok h120 hT hp9 hf _ _ g3 y h1
      by_cases c2 : kSg (kTok T m y.1) 125
      · simp only [if_pos c2] at h
        cases h
        exact b
      · simp only [if_neg c2] at h
        cases h
  · rw [if_neg c] at h
    cases h
theorem kMore_in (h120 : m ≤ 120) (hT : ∀ j, j < 120 → 0 ≤ T j ∧ T j ≤ 255) : ∀ n p, p ≤ m → ∀ x, kMore T m n p = .inr x → x.2.length ≤ n ∧ ∀ q ∈ x.2, (0 ≤ q.1 ∧ q.1 ≤ 9) ∧ (1 ≤ q.2 ∧ q.2 ≤ 16) := by
  intro n
  induction n with
  | zero =>
    intro p hp x h
    unfold kMore at h
    by_cases c : kSg (kTok T m p) 44
    · rw [if_pos c] at h
      cases h
    · rw [if_neg c] at h
      cases h
      exact ⟨Nat.le_refl _, fun q hq => by cases hq⟩
  | succ n ih =>
    intro p hp x h
    obtain ⟨g1, g2, g3, g4, -⟩ := kTok_ok (T := T) h120 hT hp
    unfold kMore at h
    by_cases c : kSg (kTok T m p) 44
    · rw [if_pos c] at h
      cases h1 : kLot T m (tkE (kTok T m p)) with
      | inl b => simp only [h1] at h; cases h
      | inr y =>
        simp only [h1] at h
        obtain ⟨a1, a2, a3, a4⟩ := kLot_pr h120 hT g3 h1
        cases h2 : kMore T m n y.1 with
        | inl b => simp only [h2] at h; cases h
        | inr z =>
          simp only [h2] at h
          obtain ⟨b1, b2⟩ := ih y.1 a2 z h2
          cases h
          refine ⟨by show z.2.length + 1 ≤ n + 1; omega, fun q hq => ?_⟩
          rcases List.mem_cons.mp hq with e | e
          · rw [e]
            exact ⟨a3, a4⟩
          · exact b2 q e
    · rw [if_neg c] at h
      cases h
      exact ⟨Nat.zero_le _, fun q hq => by cases hq⟩
theorem kLots_in (h120 : m ≤ 120) (hT : ∀ j, j < 120 → 0 ≤ T j ∧ T j ≤ 255) {p : Nat} (hp : p ≤ m) {x : Nat × List (Int × Int)} (h : kLots T m p = .inr x) : lotsOk x.2 := by
  unfold kLots at h
  cases h1 : kLot T m p with
  | inl b => rw [h1] at h; cases h
  | inr y =>
    rw [h1] at h
    obtain ⟨a1, a2, a3, a4⟩ := kLot_pr h120 hT hp h1
    cases h2 : kMore T m 7 y.1 with
    | inl b => simp only [h2] at h; cases h
    | inr z =>
      simp only [h2] at h
      obtain ⟨b1, b2⟩ := kMore_in h120 hT 7 y.1 a2 z h2
      cases h
      refine ⟨by show 1 ≤ z.2.length + 1; omega, by show z.2.length + 1 ≤ 8; omega, fun q hq => ?_⟩
      rcases List.mem_cons.mp hq with e | e
      · rw [e]
        exact ⟨a3, a4⟩
      · exact b2 q e
/-- a step that has no block -/
theorem okS.one {s : kS} (h1 : (0 ≤ sK s ∧ sK s ≤ 5) ∧ sK s ≠ 3 ∧ sK s ≠ 4) (hV : sV s = L) (hL : 0 ≤ L ∧ L ≤ 4) (hI : sI s = 1) (h5 : sK s = 5 → 0 ≤ sU s ∧ sU s < others) (h0 : sK s = 0 → (0 < kBt (kSumW (sL s)) ∧ sU s = (sL s).length) ∧ lotsOk (sL s)) (hN : sN s = -1 ∨ 0 ≤ sN s ∧ sN s ≤ 5) : okS others L [s] := fun c a hl => by
  have e := hl.hd
  have i1 : inn others c a := by
    unfold inn
    rw [e]
    exact ⟨h1.1, by rw [hV]; exact hL, by rw [hI]; exact Nat.le_refl _, fun q => absurd q h1.2.1, fun q => absurd q h1.2.2, h5, h0, hN⟩
  refine ⟨⟨Nat.le_refl _, by rw [e]; exact hV, by rw [e]; exact hI, fun j q1 q2 => absurd q2 (by show ¬ j < a + 1; omega)⟩, fun i q1 q2 => ?_⟩
  obtain rfl : i = a := by
    have : i < a + 1 := q2
    omega
  refine ⟨i1, ?_⟩
  rw [e, hI]
  exact Nat.le_refl _
theorem kRest_ok (h120 : m ≤ 120) (hT : ∀ j, j < 120 → 0 ≤ T j ∧ T j ≤ 255) {ex : Nat → kR (List Int)} (hex : kPr m ex) {br : Nat → Nat → kR (List kS)} (hbp : kPs m br) (hbr : ∀ k p x, p ≤ m → br k p = .inr x → L ≤ 3 ∧ okB others (L + 1) x.2) (hL : 0 ≤ L ∧ L ≤ 4) {kind : Int} {k p : Nat} (hk : 0 ≤ kind ∧ kind ≤ 5) (hp : p ≤ m) {x : Nat × List kS} (h : kRest T m L others ex br kind k p = .inr x) : okS others L x.2 := by
  obtain ⟨g1, g2, g3, g4, g5, g6, g7, g8, g9⟩ := kTok_ok (T := T) h120 hT hp
  unfold kRest at h
  by_cases c0 : kind = 0
  · rw [if_pos c0] at h
    obtain ⟨q1, h⟩ := kName_inr h
    obtain ⟨y, h1, h⟩ := kThen_inr h
    by_cases c : 0 < kBt (kSumW y.2)
    · rw [if_pos c] at h
      cases h
      exact okS.one ⟨by show (0 : Int) ≤ 0 ∧ (0 : Int) ≤ 5; decide, by show (0 : Int) ≠ 3; decide, by show (0 : Int) ≠ 4; decide⟩ rfl hL rfl (fun q => absurd q (by show ¬ (0 : Int) = 5; decide)) (fun _ => ⟨⟨c, rfl⟩, kLots_in h120 hT g3 h1⟩) (Or.inr ⟨g6.1, g7 q1⟩)
    · rw [if_neg c] at h
      cases h
  rw [if_neg c0] at h
  by_cases c1 : kind = 1
  · rw [if_pos c1] at h
    obtain ⟨q1, h⟩ := kName_inr h
    obtain ⟨y, h1, h⟩ := kThen_inr h
    cases h
    exact okS.one ⟨by show (0 : Int) ≤ 1 ∧ (1 : Int) ≤ 5; decide, by show (1 : Int) ≠ 3; decide, by show (1 : Int) ≠ 4; decide⟩ rfl hL rfl (fun q => absurd q (by show ¬ (1 : Int) = 5; decide)) (fun q => absurd q (by show ¬ (1 : Int) = 0; decide)) (Or.inr ⟨g6.1, g7 q1⟩)
  rw [if_neg c1] at h
  by_cases c2 : kind = 2
  · rw [if_pos c2] at h
    obtain ⟨y, h1, h⟩ := kThen_inr h
    cases h
    exact okS.one ⟨by show (0 : Int) ≤ 2 ∧ (2 : Int) ≤ 5; decide, by show (2 : Int) ≠ 3; decide, by show (2 : Int) ≠ 4; decide⟩ rfl hL rfl (fun q => absurd q (by show ¬ (2 : Int) = 5; decide)) (fun q => absurd q (by show ¬ (2 : Int) = 0; decide)) (Or.inl rfl)
  rw [if_neg c2] at h
  by_cases c3 : kind = 3
  · rw [if_pos c3] at h
    obtain ⟨y, h1, h⟩ := kThen_inr h
    obtain ⟨a1, a2, -⟩ := hex _ hp y h1
    obtain ⟨z, h2, h⟩ := kThen_inr h
    obtain ⟨b1, b2, b3, b4⟩ := hbp _ _ a2 z h2
    obtain ⟨w, h3, h⟩ := kThen_inr h
    obtain ⟨d1, d2, d3, d4⟩ := hbp _ _ b2 w h3
    obtain ⟨L3, oz⟩ := hbr _ _ z a2 h2
    obtain ⟨-, ow⟩ := hbr _ _ w b2 h3
    cases h
    intro c a hl
    have e := hl.hd
    obtain ⟨z1, z2, z3⟩ := oz c (a + 1) hl.tl.app1
    obtain ⟨w1, w2, w3⟩ := ow c (a + 1 + z.2.length) hl.tl.app2
    have eI : sI (c a) = 1 + z.2.length + w.2.length := by rw [e]
    have eO : sO (c a) = 1 + z.2.length := by rw [e]
    have eV : sV (c a) = L := by rw [e]
    have eK : sK (c a) = 3 := by rw [e]
    have len : ((3, -1, -1, 1 + z.2.length + w.2.length, 1 + z.2.length, y.2, [], L) :: (z.2 ++ w.2) : List kS).length = 1 + z.2.length + w.2.length := by
      rw [List.length_cons, List.length_append]
      omega
    show (1 ≤ ((3, -1, -1, 1 + z.2.length + w.2.length, 1 + z.2.length, y.2, [], L) :: (z.2 ++ w.2) : List kS).length ∧ _) ∧ _
    rw [len]
    refine ⟨⟨by omega, eV, eI, fun j q1 q2 => ?_⟩, fun i q1 q2 => ?_⟩
    · by_cases q : j < a + 1 + z.2.length
      · have := z2 j (by omega) q
        omega
      · have := w2 j (by omega) (by omega)
        omega
    · by_cases q : i = a
      · rw [q]
        have l16 : z.2.length + w.2.length ≤ 16 := by omega
        have t1 := tl_add z1 (16 - z.2.length)
        have t2 := tl_add w1 (16 - w.2.length)
        have n1 : z.2.length + (16 - z.2.length) = 16 := by omega
        have n2 : w.2.length + (16 - w.2.length) = 16 := by omega
        rw [n1] at t1
        rw [n2] at t2
        refine ⟨⟨by rw [eK]; decide, by rw [eV]; exact hL, by rw [eI]; omega, fun _ => ⟨by rw [eV]; exact L3, by rw [eO]; omega, by rw [eO, eI]; omega, ?_, ?_⟩, fun r => absurd r (by rw [eK]; decide), fun r => absurd r (by rw [eK]; decide), fun r => absurd r (by rw [eK]; decide), Or.inl (by rw [e])⟩, by rw [eI]; omega⟩
        · rw [eV, eO, ← Nat.add_assoc]
          exact t1
        · rw [eV, eO, eI]
          have n3 : a + (1 + z.2.length) = a + 1 + z.2.length := by omega
          have n4 : a + (1 + z.2.length + w.2.length) = a + 1 + z.2.length + w.2.length := by omega
          rw [n3, n4]
          exact t2
      · by_cases q3 : i < a + 1 + z.2.length
        · obtain ⟨k1, k2⟩ := z3 i (by omega) q3
          exact ⟨k1, by omega⟩
        · obtain ⟨k1, k2⟩ := w3 i (by omega) (by omega)
          exact ⟨k1, by omega⟩
  rw [if_neg c3] at h
  by_cases c4 : kind = 4
  · rw [if_pos c4] at h
    obtain ⟨q1, h⟩ := kNumb_inr h
    obtain ⟨z, h2, h⟩ := kThen_inr h
    obtain ⟨b1, b2, b3, b4⟩ := hbp _ _ g3 z h2
    obtain ⟨L3, oz⟩ := hbr _ _ z g3 h2
    cases h
    intro c a hl
    have e := hl.hd
    obtain ⟨z1, z2, z3⟩ := oz c (a + 1) hl.tl
    have eI : sI (c a) = 1 + z.2.length := by rw [e]
    have eV : sV (c a) = L := by rw [e]
    have eK : sK (c a) = 4 := by rw [e]
    have eU : sU (c a) = tkV (kTok T m p) := by rw [e]
    have len : ((4, -1, tkV (kTok T m p), 1 + z.2.length, 1 + z.2.length, [], [], L) :: z.2 : List kS).length = 1 + z.2.length := by
      rw [List.length_cons]
      omega
    show (1 ≤ ((4, -1, tkV (kTok T m p), 1 + z.2.length, 1 + z.2.length, [], [], L) :: z.2 : List kS).length ∧ _) ∧ _
    rw [len]
    refine ⟨⟨by omega, eV, eI, fun j q1 q2 => ?_⟩, fun i q1 q2 => ?_⟩
    · have := z2 j (by omega) (by omega)
      omega
    · by_cases q : i = a
      · rw [q]
        have t1 := tl_add z1 (16 - z.2.length)
        have n1 : z.2.length + (16 - z.2.length) = 16 := by omega
        rw [n1] at t1
        refine ⟨⟨by rw [eK]; decide, by rw [eV]; exact hL, by rw [eI]; omega, fun r => absurd r (by rw [eK]; decide), fun _ => ⟨by rw [eV]; exact L3, by rw [eU]; omega, ?_⟩, fun r => absurd r (by rw [eK]; decide), fun r => absurd r (by rw [eK]; decide), Or.inl (by rw [e])⟩, by rw [eI]; omega⟩
        rw [eV, eI, ← Nat.add_assoc]
        exact t1
      · obtain ⟨k1, k2⟩ := z3 i (by omega) (by omega)
        exact ⟨k1, by omega⟩
  rw [if_neg c4] at h
  obtain ⟨q1, h⟩ := kName_inr h
  obtain ⟨q2, h⟩ := kNumb_inr h
  obtain ⟨i1, i2, i3, i4, i5, i6, -⟩ := kTok_ok (T := T) h120 hT g3
  obtain ⟨y, h1, h⟩ := kThen_inr h
  cases h
  exact okS.one ⟨by show (0 : Int) ≤ 5 ∧ (5 : Int) ≤ 5; decide, by show (5 : Int) ≠ 3; decide, by show (5 : Int) ≠ 4; decide⟩ rfl hL rfl (fun _ => ⟨i6.1, q2.2⟩) (fun q => absurd q (by show ¬ (5 : Int) = 0; decide)) (Or.inr ⟨g6.1, g7 q1⟩)
theorem kStepB_ok (h120 : m ≤ 120) (hT : ∀ j, j < 120 → 0 ≤ T j ∧ T j ≤ 255) {ex : Nat → kR (List Int)} (hex : kPr m ex) {br : Nat → Nat → kR (List kS)} (hbp : kPs m br) (hbr : ∀ k p x, p ≤ m → br k p = .inr x → L ≤ 3 ∧ okB others (L + 1) x.2) (hL : 0 ≤ L ∧ L ≤ 4) : ∀ k p x, p ≤ m → kStepB T m L others ex br k p = .inr x → okS others L x.2 := by
  intro k p x hp h
  obtain ⟨g1, g2, g3, g4, g5, g6, g7, g8, g9⟩ := kTok_ok (T := T) h120 hT hp
  unfold kStepB at h
  by_cases c : tkS (kTok T m p) = 2 ∧ k < 16
  · rw [if_pos c] at h
    exact kRest_ok h120 hT hex hbp hbr hL ⟨g6.1, g8 c.1⟩ g3 h
  · rw [if_neg c] at h
    cases h
theorem kStep_ok (h120 : m ≤ 120) (hT : ∀ j, j < 120 → 0 ≤ T j ∧ T j ≤ 255) : ∀ d : Nat, d ≤ 4 → ∀ k p x, p ≤ m → kStep T m others d k p = .inr x → okS others (4 - d) x.2 := by
  intro d
  induction d with
  | zero =>
    intro hd k p x hp h
    have e : (4 : Int) - ((0 : Nat) : Int) = 4 := rfl
    rw [e]
    exact kStepB_ok h120 hT (kExp_pr h120 hT (kOne_pr h120 hT 0)) kNoBr_pr (fun k p x _ h => by cases h) (by decide) k p x hp h
  | succ d ih =>
    intro hd k p x hp h
    refine kStepB_ok h120 hT (kExp_pr h120 hT (kOne_pr h120 hT (d + 1))) (kBrace_pr h120 hT (kStep_pr h120 hT others d)) (fun k p x hp h => ⟨by omega, ?_⟩) (by omega) k p x hp h
    have e : (4 : Int) - ((d + 1 : Nat) : Int) + 1 = 4 - (d : Int) := by omega
    rw [e]
    exact kBrace_ok h120 hT (kStep_pr h120 hT others d) (ih (by omega)) k p hp x h
/-- a text's steps are a block -/
theorem kProg_ok (h120 : m ≤ 120) (hT : ∀ j, j < 120 → 0 ≤ T j ∧ T j ≤ 255) {x : Nat × List kS} (h : kBlock T m (kStep T m others 4) 0 0 = .inr x) : okB others 0 x.2 ∧ 1 ≤ x.2.length ∧ x.2.length ≤ 16 := by
  obtain ⟨-, -, b3, b4⟩ := kBlock_pr h120 hT (kStep_pr h120 hT others 4) 0 0 (Nat.zero_le m) x h
  exact ⟨kBlock_ok h120 hT (kStep_pr h120 hT others 4) (kStep_ok (others := others) h120 hT 4 (by decide)) 0 0 (Nat.zero_le m) x h, b3, by omega⟩
end KOK
