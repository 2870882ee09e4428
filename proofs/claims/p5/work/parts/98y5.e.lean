/-! TOKENS of the reference: next (own work) -/
theorem m_w88 {T : Nat → Int} {m : Nat} : ∀ (d n p : Nat) (c : Int) (M : mA), bM M T m → M 0 0 23 = p → p ≤ m → m ≤ p + d → d < n → ∃ (M' : mA) (k : Nat), fM M M' [23] ∧ M' 0 0 23 = ((kRun T m 97 122 d p : Nat) : Int) ∧ f_Mo_next_88 n M c = f_Mo_next_88 (k + 1) M' c := by
  intro d
  induction d with
  | zero => intro n p c M hb hp h1 h2 h3; exact ⟨M, n - 1, fM.refl, hp, by rw [Nat.sub_add_cancel (by omega)]⟩
  | succ d ih =>
    intro n p c M hb hp h1 h2 h3
    unfold kRun
    by_cases q : p < m ∧ (97 ≤ T p ∧ T p ≤ 122)
    · rw [if_pos q]
      have h9 := (hb.2.2 p (by have := hb.2.1; omega)).2
      obtain ⟨n, rfl⟩ : ∃ k, n = k + 1 := ⟨n - 1, by omega⟩
      have f1 : fM M (mu M 0 0 23 ((p + 1 : Nat) : Int)) [23] := fM.mu List.mem_cons_self
      obtain ⟨M', k, a, b, e⟩ := ih n (p + 1) c (mu M 0 0 23 ((p + 1 : Nat) : Int)) (hb.fr f1 (by decide)) (mu_at _ _ _ _ _) (by omega) (by omega) (by omega)
      refine ⟨M', k, f1.trans a, b, ?_⟩
      rw [← e, f_Mo_next_88, m_byteAt hb hp h1, obind]
      show Option.bind (f_Mo_in M (if p < m then T p else -1) 97 122) _ = _
      rw [if_pos q.1, m_in (by omega) (by decide) (by decide), obind, if_pos q.2, if_pos (by show g32 1; decide), if_neg (by show ¬ (1 : Int) = 0; decide)]
      show f_Mo_next_88 n (mu M 0 0 23 (M 0 0 23 + 1)) c = _
      rw [hp]
      rfl
    · rw [if_neg q]
      exact ⟨M, n - 1, fM.refl, hp, by rw [Nat.sub_add_cancel (by omega)]⟩
/-- a number's value so far -/
def pNum (T : Nat → Int) (b p : Nat) : Int := if p = b then 0 else if p = b + 1 then T b - 48 else (T b - 48) * 10 + T (b + 1) - 48
theorem m_w217 {T : Nat → Int} {m b : Nat} : ∀ (d n p : Nat) (M : mA), bM M T m → M 0 0 23 = p → M 0 0 24 = b → M 0 0 26 = pNum T b p → b ≤ p → p ≤ m → m ≤ p + d → d < n → ∃ (M' : mA) (k : Nat), fM M M' [23, 26] ∧ M' 0 0 23 = ((kRun T m 48 57 d p : Nat) : Int) ∧ M' 0 0 26 = pNum T b (kRun T m 48 57 d p) ∧ f_Mo_next_217 n M = f_Mo_next_217 (k + 1) M' := by
  intro d
  induction d with
  | zero => intro n p M hb hp hb2 hv h0 h1 h2 h3; exact ⟨M, n - 1, fM.refl, hp, hv, by rw [Nat.sub_add_cancel (by omega)]⟩
  | succ d ih =>
    intro n p M hb hp hb2 hv h0 h1 h2 h3
    unfold kRun
    by_cases q : p < m ∧ (48 ≤ T p ∧ T p ≤ 57)
    · rw [if_pos q]
      have h120 := hb.2.1
      have h9 := (hb.2.2 p (by omega)).2
      obtain ⟨n, rfl⟩ : ∃ k, n = k + 1 := ⟨n - 1, by omega⟩
      by_cases w : b + 2 ≤ p
      · have f1 : fM M (mu M 0 0 23 ((p + 1 : Nat) : Int)) [23, 26] := fM.mu List.mem_cons_self
        obtain ⟨M', k, a, c, v, e⟩ := ih n (p + 1) (mu M 0 0 23 ((p + 1 : Nat) : Int)) (hb.fr f1 (by decide)) (mu_at _ _ _ _ _) ((mu_ne _ _ (fun r => absurd r.2.2 (by decide))).trans hb2) ((mu_ne _ _ (fun r => absurd r.2.2 (by decide))).trans (hv.trans (by unfold pNum; rw [if_neg (by omega), if_neg (by omega), if_neg (by omega), if_neg (by omega)]))) (by omega) (by omega) (by omega) (by omega)
        refine ⟨M', k, f1.trans a, c, v, ?_⟩
        rw [← e, f_Mo_next_217, m_byteAt hb hp h1, obind]
        show Option.bind (f_Mo_in M (if p < m then T p else -1) 48 57) _ = _
        rw [if_pos q.1, m_in (by omega) (by decide) (by decide), obind, if_pos q.2, if_pos (by show g32 1; decide), if_neg (by show ¬ (1 : Int) = 0; decide)]
        show (if g32 (M 0 0 23 - M 0 0 24) then if 2 ≤ M 0 0 23 - M 0 0 24 then f_Mo_next_217 n (mu M 0 0 23 (M 0 0 23 + 1)) else _ else none) = _
        rw [hp, hb2, if_pos (by unfold g32; omega), if_pos (by omega)]
        rfl
      · have f1 : fM M (mu (mu M 0 0 26 (10 * M 0 0 26 + T p - 48)) 0 0 23 ((p + 1 : Nat) : Int)) [23, 26] := (fM.mu (by decide)).trans (fM.mu (by decide))
        obtain ⟨M', k, a, c, v, e⟩ := ih n (p + 1) (mu (mu M 0 0 26 (10 * M 0 0 26 + T p - 48)) 0 0 23 ((p + 1 : Nat) : Int)) (hb.fr f1 (by decide)) (mu_at _ _ _ _ _) ((f1 0 0 24 (fun r => absurd r.2.2 (by decide))).trans hb2) (by
          rw [mu_ne _ _ (fun r => absurd r.2.2 (by decide)), mu_at, hv]
          unfold pNum
          by_cases u : p = b
          · subst u
            rw [if_pos rfl, if_neg (by omega), if_pos rfl]
            omega
          · obtain rfl : p = b + 1 := by omega
            rw [if_neg u, if_pos rfl, if_neg (by omega), if_neg (by omega)]
            omega) (by omega) (by omega) (by omega) (by omega)
        refine ⟨M', k, f1.trans a, c, v, ?_⟩
        rw [← e, f_Mo_next_217, m_byteAt hb hp h1, obind]
        show Option.bind (f_Mo_in M (if p < m then T p else -1) 48 57) _ = _
        rw [if_pos q.1, m_in (by omega) (by decide) (by decide), obind, if_pos q.2, if_pos (by show g32 1; decide), if_neg (by show ¬ (1 : Int) = 0; decide)]
        show (if g32 (M 0 0 23 - M 0 0 24) then if 2 ≤ M 0 0 23 - M 0 0 24 then _ else Option.bind (f_Mo_byteAt M (M 0 0 23)) _ else none) = _
        rw [hp, hb2, if_pos (by unfold g32; omega), if_neg (by omega), m_byteAt hb rfl h1, obind]
        show f_Mo_next_217 n (mu (mu M 0 0 26 (10 * M 0 0 26 + (if p < m then T p else -1) - 48)) 0 0 23 (M 0 0 23 + 1)) = _
        rw [if_pos q.1, hp]
        rfl
    · rw [if_neg q]
      exact ⟨M, n - 1, fM.refl, hp, hv, by rw [Nat.sub_add_cancel (by omega)]⟩
/-- what the reference keeps of a token -/
def gM (M' : mA) (t : kT) : Prop := M' 0 0 23 = tkE t ∧ M' 0 0 24 = tkB t ∧ (tkS t ≠ 5 → M' 0 0 25 = tkS t) ∧ (1 ≤ tkS t → tkS t ≤ 4 → M' 0 0 26 = tkV t) ∧ M' 0 0 31 = if tkS t = 5 then 1 else 0
theorem m_n88 {M : mA} {T : Nat → Int} {m b : Nat} (h : bM M T m) (h23 : M 0 0 23 = b) (h24 : M 0 0 24 = b) (hbm : b < m) (hl : 97 ≤ T b ∧ T b ≤ 122) : ∃ M', f_Mo_next_88 200 M (T b) = some (0, M') ∧ fM M M' [23, 25, 26, 31] ∧ gM M' (kWd T m b (kRun T m 97 122 120 b)) := by
  have h120 := h.2.1
  obtain ⟨M1, k, f1, a1, e1⟩ := m_w88 120 200 b (T b) M h h23 (by omega) (by omega) (by omega)
  obtain ⟨q1, q2⟩ := kRun_le (T := T) (m := m) (lo := 97) (hi := 122) 120 b (by omega)
  have q3 := kRun_end (T := T) (m := m) (lo := 97) (hi := 122) 120 b (by omega)
  generalize kRun T m 97 122 120 b = e at *
  have hB1 := h.fr f1 (by decide)
  have g24 : M1 0 0 24 = b := (f1 0 0 24 (fun r => absurd r.2.2 (by decide))).trans h24
  have n0 : ¬ (97 ≤ (if e < m then T e else -1) ∧ (if e < m then T e else -1) ≤ 122) := by
    by_cases c : e < m
    · rw [if_pos c]
      exact fun r => q3 ⟨c, r⟩
    · rw [if_neg c]
      omega
  have r0 : -1 ≤ (if e < m then T e else -1) ∧ (if e < m then T e else -1) ≤ 255 := by
    by_cases c : e < m
    · have c8 := (h.2.2 e (by omega)).2
      rw [if_pos c]
      omega
    · rw [if_neg c]
      omega
  have f1' := f1.sub (s' := [23, 25, 26, 31]) (by decide)
  rw [e1, f_Mo_next_88, m_byteAt hB1 a1 q2, obind]
  show ∃ M', Option.bind (f_Mo_in M1 (if e < m then T e else -1) 97 122) _ = _ ∧ _
  rw [m_in r0 (by decide) (by decide), obind, if_neg n0, if_pos (by show g32 0; decide), if_pos (by show (0 : Int) = 0; rfl)]
  show ∃ M', (if g32 (M1 0 0 23 - M1 0 0 24) then if M1 0 0 23 - M1 0 0 24 = 1 then if g32 (T b) then if 102 < T b then Option.bind (f_Mo_wordRead (mu M1 0 0 25 2)) _ else _ else none else Option.bind (f_Mo_wordRead (mu M1 0 0 25 2)) _ else none) = _ ∧ _
  rw [a1, g24, if_pos (by unfold g32; omega)]
  have w1 : fM M1 (mu M1 0 0 25 2) [23, 25, 26, 31] := fM.mu (by decide)
  have hB2 := hB1.fr w1 (by decide)
  have i24 : mu M1 0 0 25 2 0 0 24 = b := (mu_ne _ _ (fun r => absurd r.2.2 (by decide))).trans g24
  have i23 : mu M1 0 0 25 2 0 0 23 = e := (mu_ne _ _ (fun r => absurd r.2.2 (by decide))).trans a1
  have kr : -1 ≤ kKind T b e m ∧ kKind T b e m ≤ 5 := by
    unfold kKind
    repeat (first | (refine gi (P := fun z : Int => -1 ≤ z ∧ z ≤ 5) (fun _ => by decide) (fun _ => ?_)) | decide)
  have long : ¬ (e = b + 1 ∧ T b ≤ 102) → ∃ M', Option.bind (f_Mo_wordRead (mu M1 0 0 25 2)) (fun q31 => if g32 q31.1 then if q31.1 = -1 then some (0, mu (mu q31.2 0 0 26 q31.1) 0 0 31 1) else some (0, mu (mu q31.2 0 0 26 q31.1) 0 0 31 0) else none) = some ((0 : Int), M') ∧ fM M M' [23, 25, 26, 31] ∧ gM M' (kWd T m b e) := fun hne => by
    rw [m_wordRead hB2 i24 i23 (by omega) q2, obind, if_pos (by show g32 (kKind T b e m); unfold g32; omega)]
    show ∃ M', (if kKind T b e m = -1 then some (0, mu (mu (mu M1 0 0 25 2) 0 0 26 (kKind T b e m)) 0 0 31 1) else some (0, mu (mu (mu M1 0 0 25 2) 0 0 26 (kKind T b e m)) 0 0 31 0)) = _ ∧ _
    unfold kWd
    rw [if_neg hne]
    have y : ∀ z, fM M (mu (mu (mu M1 0 0 25 2) 0 0 26 (kKind T b e m)) 0 0 31 z) [23, 25, 26, 31] := fun z => ((f1'.trans w1).trans (fM.mu (by decide))).trans (fM.mu (by decide))
    have y23 : ∀ z, mu (mu (mu M1 0 0 25 2) 0 0 26 (kKind T b e m)) 0 0 31 z 0 0 23 = e := fun z => a1
    have y24 : ∀ z, mu (mu (mu M1 0 0 25 2) 0 0 26 (kKind T b e m)) 0 0 31 z 0 0 24 = b := fun z => g24
    by_cases c : kKind T b e m = -1
    · rw [if_pos c, if_pos c]
      exact ⟨_, rfl, y 1, y23 1, y24 1, fun h => absurd rfl h, fun _ h => absurd h (by show ¬ (5 : Int) ≤ 4; decide), mu_at _ _ _ _ _⟩
    · rw [if_neg c, if_neg c]
      exact ⟨_, rfl, y 0, y23 0, y24 0, fun _ => rfl, fun _ _ => rfl, mu_at _ _ _ _ _⟩
  by_cases c1 : (e : Int) - b = 1
  · rw [if_pos c1, if_pos (by unfold g32; omega)]
    by_cases c2 : 102 < T b
    · rw [if_pos c2]
      exact long (fun r => absurd r.2 (by omega))
    · rw [if_neg c2, if_pos (by unfold g32; omega), if_neg (by omega)]
      unfold kWd
      rw [if_pos ⟨by omega, by omega⟩]
      exact ⟨_, rfl, ((f1'.trans (fM.mu (by decide))).trans (fM.mu (by decide))).trans (fM.mu (by decide)), a1, g24, fun _ => rfl, fun _ _ => rfl, mu_at _ _ _ _ _⟩
  · rw [if_neg c1]
    exact long (fun r => absurd r.1 (by omega))
theorem m_n217 {M : mA} {T : Nat → Int} {m b : Nat} (h : bM M T m) (h23 : M 0 0 23 = b) (h24 : M 0 0 24 = b) (h26 : M 0 0 26 = 0) (h25 : M 0 0 25 = 3) (hbm : b < m) (hl : 48 ≤ T b ∧ T b ≤ 57) : ∃ M', f_Mo_next_217 200 M = some (0, M') ∧ fM M M' [23, 25, 26, 31] ∧ gM M' (kNb T b (kRun T m 48 57 120 b)) := by
  have h120 := h.2.1
  obtain ⟨M1, k, f1, a1, v1, e1⟩ := m_w217 120 200 b M h h23 h24 (h26.trans (by unfold pNum; rw [if_pos rfl])) (Nat.le_refl _) (by omega) (by omega) (by omega)
  obtain ⟨q1, q2⟩ := kRun_le (T := T) (m := m) (lo := 48) (hi := 57) 120 b (by omega)
  have q3 := kRun_end (T := T) (m := m) (lo := 48) (hi := 57) 120 b (by omega)
  have q4 : b + 1 ≤ kRun T m 48 57 120 b := by
    unfold kRun
    rw [if_pos ⟨hbm, hl⟩]
    exact (kRun_le _ _ (by omega)).1
  generalize kRun T m 48 57 120 b = e at *
  have hB1 := h.fr f1 (by decide)
  have g24 : M1 0 0 24 = b := (f1 0 0 24 (fun r => absurd r.2.2 (by decide))).trans h24
  have g25 : M1 0 0 25 = 3 := (f1 0 0 25 (fun r => absurd r.2.2 (by decide))).trans h25
  have n0 : ¬ (48 ≤ (if e < m then T e else -1) ∧ (if e < m then T e else -1) ≤ 57) := by
    by_cases c : e < m
    · rw [if_pos c]
      exact fun r => q3 ⟨c, r⟩
    · rw [if_neg c]
      omega
  have r0 : -1 ≤ (if e < m then T e else -1) ∧ (if e < m then T e else -1) ≤ 255 := by
    by_cases c : e < m
    · have c8 := (h.2.2 e (by omega)).2
      rw [if_pos c]
      omega
    · rw [if_neg c]
      omega
  have f1' := f1.sub (s' := [23, 25, 26, 31]) (by decide)
  rw [e1, f_Mo_next_217, m_byteAt hB1 a1 q2, obind]
  show ∃ M', Option.bind (f_Mo_in M1 (if e < m then T e else -1) 48 57) _ = _ ∧ _
  rw [m_in r0 (by decide) (by decide), obind, if_neg n0, if_pos (by show g32 0; decide), if_pos (by show (0 : Int) = 0; rfl)]
  show ∃ M', (if g32 (M1 0 0 23 - M1 0 0 24) then if M1 0 0 23 - M1 0 0 24 ≤ 2 then some (0, mu M1 0 0 31 0) else some (0, mu M1 0 0 31 1) else none) = _ ∧ _
  rw [a1, g24, if_pos (by unfold g32; omega)]
  unfold kNb
  by_cases c : e ≤ b + 2
  · rw [if_pos (by omega), if_pos c]
    refine ⟨_, rfl, f1'.trans (fM.mu (by decide)), a1, g24, fun _ => g25, fun _ _ => ?_, mu_at _ _ _ _ _⟩
    show M1 0 0 26 = kNum T b e
    rw [v1]
    unfold pNum kNum
    rw [if_neg (by omega)]
  · rw [if_neg (by omega), if_neg c]
    exact ⟨_, rfl, f1'.trans (fM.mu (by decide)), a1, g24, fun h => absurd rfl h, fun _ h => absurd h (by show ¬ (5 : Int) ≤ 4; decide), mu_at _ _ _ _ _⟩
theorem m_w8 {T : Nat → Int} {m : Nat} : ∀ (d n p : Nat) (M : mA), bM M T m → M 0 0 23 = p → p ≤ m → m ≤ p + d → d < n → ∃ (M' : mA) (k : Nat), fM M M' [23] ∧ M' 0 0 23 = ((kSkip T m d p : Nat) : Int) ∧ f_Mo_next_8 n M = f_Mo_next_8 (k + 1) M' := by
  intro d
  induction d with
  | zero => intro n p M hb hp h1 h2 h3; exact ⟨M, n - 1, fM.refl, hp, by rw [Nat.sub_add_cancel (by omega)]⟩
  | succ d ih =>
    intro n p M hb hp h1 h2 h3
    unfold kSkip
    by_cases q : p < m ∧ (T p = 32 ∨ T p = 10)
    · rw [if_pos q]
      have h9 := (hb.2.2 p (by have := hb.2.1; omega)).2
      obtain ⟨n, rfl⟩ : ∃ k, n = k + 1 := ⟨n - 1, by omega⟩
      have f1 : fM M (mu M 0 0 23 ((p + 1 : Nat) : Int)) [23] := fM.mu List.mem_cons_self
      obtain ⟨M', k, a, b, e⟩ := ih n (p + 1) (mu M 0 0 23 ((p + 1 : Nat) : Int)) (hb.fr f1 (by decide)) (mu_at _ _ _ _ _) (by omega) (by omega) (by omega)
      refine ⟨M', k, f1.trans a, b, ?_⟩
      rw [← e, f_Mo_next_8, m_byteAt hb hp h1, obind]
      show (if g32 (if p < m then T p else -1) then if (if p < m then T p else -1) = 32 then f_Mo_next_8 n (mu M 0 0 23 (M 0 0 23 + 1)) else Option.bind (f_Mo_byteAt M (M 0 0 23)) _ else none) = _
      rw [if_pos q.1, if_pos (by unfold g32; omega)]
      by_cases c2 : T p = 32
      · rw [if_pos c2, hp]
        rfl
      · rw [if_neg c2, m_byteAt hb hp h1, obind]
        show (if g32 (if p < m then T p else -1) then if (if p < m then T p else -1) = 10 then f_Mo_next_8 n (mu M 0 0 23 (M 0 0 23 + 1)) else _ else none) = _
        rw [if_pos q.1, if_pos (by unfold g32; omega), if_pos (by omega), hp]
        rfl
    · rw [if_neg q]
      exact ⟨M, n - 1, fM.refl, hp, by rw [Nat.sub_add_cancel (by omega)]⟩
/-- the next token of the reference -/
theorem m_next {M : mA} {T : Nat → Int} {m p : Nat} (h : bM M T m) (h31 : M 0 0 31 = 0) (h23 : M 0 0 23 = p) (hp : p ≤ m) : ∃ M', f_Mo_next M = some (0, M') ∧ fM M M' [23, 24, 25, 26, 31] ∧ gM M' (kTok T m p) := by
  have h120 := h.2.1
  obtain ⟨M1, k, f1, a1, e1⟩ := m_w8 120 200 p M h h23 hp (by omega) (by omega)
  obtain ⟨q1, q2⟩ := kSkip_le (T := T) (m := m) 120 p hp
  have q3 := kSkip_end (T := T) (m := m) 120 p (by omega)
  unfold kTok
  generalize kSkip T m 120 p = b at *
  have hB1 := h.fr f1 (by decide)
  have g31 : M1 0 0 31 = 0 := (f1 0 0 31 (fun r => absurd r.2.2 (by decide))).trans h31
  have w1 : fM M1 (mu M1 0 0 24 b) [23, 24, 25, 26, 31] := fM.mu (by decide)
  have hB2 := hB1.fr w1 (by decide)
  have f2 := (f1.sub (s' := [23, 24, 25, 26, 31]) (by decide)).trans w1
  have i23 : mu M1 0 0 24 b 0 0 23 = b := a1
  have i24 : mu M1 0 0 24 b 0 0 24 = b := rfl
  have i31 : mu M1 0 0 24 b 0 0 31 = 0 := g31
  have n1 : ¬ (if b < m then T b else -1) = 32 := by
    by_cases c : b < m
    · rw [if_pos c]
      exact fun r => q3 ⟨c, Or.inl r⟩
    · rw [if_neg c]
      decide
  have n2 : ¬ (if b < m then T b else -1) = 10 := by
    by_cases c : b < m
    · rw [if_pos c]
      exact fun r => q3 ⟨c, Or.inr r⟩
    · rw [if_neg c]
      decide
  have r0 : -1 ≤ (if b < m then T b else -1) ∧ (if b < m then T b else -1) ≤ 255 := by
    by_cases c : b < m
    · have c8 := (h.2.2 b (by omega)).2
      rw [if_pos c]
      omega
    · rw [if_neg c]
      omega
  unfold f_Mo_next
  rw [h31, if_pos (by decide), if_pos rfl, e1, f_Mo_next_8, m_byteAt hB1 a1 q2, obind]
  show ∃ M', (if g32 (if b < m then T b else -1) then if (if b < m then T b else -1) = 32 then _ else Option.bind (f_Mo_byteAt M1 (M1 0 0 23)) _ else none) = _ ∧ _
  rw [if_pos (show g32 _ by unfold g32; omega), if_neg n1, m_byteAt hB1 a1 q2, obind]
  show ∃ M', (if g32 (if b < m then T b else -1) then if (if b < m then T b else -1) = 10 then _ else Option.bind (f_Mo_byteAt (mu M1 0 0 24 (M1 0 0 23)) (M1 0 0 23)) _ else none) = _ ∧ _
  rw [if_pos (show g32 _ by unfold g32; omega), if_neg n2, a1]
  generalize hM2 : mu M1 0 0 24 b = M2 at *
  rw [m_byteAt hB2 rfl q2, obind]
  show ∃ M', (if g32 (if b < m then T b else -1) then if (if b < m then T b else -1) = -1 then some (0, mu M2 0 0 25 0) else Option.bind (f_Mo_in M2 (if b < m then T b else -1) 97 122) _ else none) = _ ∧ _
  rw [if_pos (show g32 _ by unfold g32; omega)]
  by_cases c : m ≤ b
  · unfold kTokB
    rw [if_pos c, if_neg (show ¬ b < m by omega), if_pos rfl]
    exact ⟨_, rfl, f2.trans (fM.mu (by decide)), i23, i24, fun _ => rfl, fun h => absurd h (by show ¬ (1 : Int) ≤ 0; decide), i31⟩
  · have c9 : b < m := by omega
    have c8 := (h.2.2 b (by omega)).2
    have et : kTokB T m b = (if 97 ≤ T b ∧ T b ≤ 122 then kWd T m b (kRun T m 97 122 120 b) else if 48 ≤ T b ∧ T b ≤ 57 then kNb T b (kRun T m 48 57 120 b) else if kSgn (T b) then (4, T b, b, b + 1) else (5, 0, b, b + 1)) := by
      unfold kTokB
      rw [if_neg c]
    rw [et, if_pos c9, if_neg (show ¬ T b = -1 by omega), m_in (by omega) (by decide) (by decide), obind]
    by_cases l1 : 97 ≤ T b ∧ T b ≤ 122
    · rw [if_pos l1, if_pos l1, if_pos (show g32 1 by decide), if_neg (show ¬ (1 : Int) = 0 by decide)]
      obtain ⟨M', x1, x2, x3⟩ := m_n88 hB2 i23 i24 c9 l1
      exact ⟨M', x1, f2.trans (x2.sub (by decide)), x3⟩
    · rw [if_neg l1, if_neg l1, if_pos (show g32 0 by decide), if_pos (show (0 : Int) = 0 by rfl)]
      show ∃ M', Option.bind (f_Mo_in M2 (T b) 48 57) _ = _ ∧ _
      rw [m_in (by omega) (by decide) (by decide), obind]
      by_cases l2 : 48 ≤ T b ∧ T b ≤ 57
      · rw [if_pos l2, if_pos l2, if_pos (show g32 1 by decide), if_neg (show ¬ (1 : Int) = 0 by decide)]
        have w3 : fM M2 (mu (mu M2 0 0 25 3) 0 0 26 0) [23, 24, 25, 26, 31] := (fM.mu (by decide)).trans (fM.mu (by decide))
        obtain ⟨M', x1, x2, x3⟩ := m_n217 (hB2.fr w3 (by decide)) i23 i24 rfl rfl c9 l2
        exact ⟨M', x1, (f2.trans w3).trans (x2.sub (by decide)), x3⟩
      · rw [if_neg l2, if_neg l2, if_pos (show g32 0 by decide), if_pos (show (0 : Int) = 0 by rfl), if_pos (show 0 ≤ T b ∧ T b ≤ 255 by omega)]
        have js : 0 ≤ jIx 12 (T b) ↔ kSgn (T b) := by
          have := jsig (T b).toNat (by omega)
          rw [Int.toNat_of_nonneg (by omega)] at this
          exact this
        have y : ∀ z, fM M (mu (mu (mu (mu M2 0 0 25 4) 0 0 26 (T b)) 0 0 23 (M2 0 0 23 + 1)) 0 0 31 z) [23, 24, 25, 26, 31] := fun z => (((f2.trans (fM.mu (by decide))).trans (fM.mu (by decide))).trans (fM.mu (by decide))).trans (fM.mu (by decide))
        have y23 : ∀ z, mu (mu (mu (mu M2 0 0 25 4) 0 0 26 (T b)) 0 0 23 (M2 0 0 23 + 1)) 0 0 31 z 0 0 23 = ((b + 1 : Nat) : Int) := fun z => by
          show M2 0 0 23 + 1 = _
          rw [i23]
          rfl
        have gj : g32 (jIx 12 (T b)) := ⟨jlo _, by have := jhi (jfX 12 (Int32.ofInt (T b))); show (jfX 12 (Int32.ofInt (T b))).toInt ≤ _; omega⟩
        rw [if_pos gj]
        by_cases l3 : kSgn (T b)
        · rw [if_pos l3, if_pos (js.mpr l3)]
          exact ⟨_, rfl, y 0, y23 0, i24, fun _ => rfl, fun _ _ => rfl, mu_at _ _ _ _ _⟩
        · rw [if_neg l3, if_neg (fun h => l3 (js.mp h))]
          exact ⟨_, rfl, y 1, y23 1, i24, fun h => absurd rfl h, fun _ h => absurd h (by show ¬ (5 : Int) ≤ 4; decide), mu_at _ _ _ _ _⟩
