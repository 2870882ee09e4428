/-! FORMULAS of the reference: one (own work) -/
section FR3
variable {P : Nat} {T : Nat → Int} {m : Nat} {op : Int}
theorem fN.w1 {M : mA} {z : Int} : fN P M (mu M 0 0 31 z) := fN.ofM (l := [31]) (fM.mu (by decide)) (by decide)
theorem fN.o7 {M : mA} {z : Int} : fN P M (mu M 0 0 27 z) := fN.ofM (l := [27]) (fM.mu (by decide)) (by decide)
theorem gM.o7 {M : mA} {t : kT} {z : Int} (h : gM M t) : gM (mu M 0 0 27 z) t := h
/-- a sign that must stand there -/
theorem m_need {M : mA} {p : Nat} {c : Int} (h : mE9 P T m M p) (ho : M 0 0 27 = op) (hc : 0 ≤ c ∧ c ≤ 255) : ∃ M', f_Mo_need M c = some (0, M') ∧ fN P M M' ∧ mI9 P T m M' ∧ M' 0 0 27 = op ∧ M' 0 0 30 = M 0 0 30 ∧ (kSg (kTok T m p) c ∧ mE9 P T m M' (tkE (kTok T m p)) ∨ ¬ kSg (kTok T m p) c ∧ M' 0 0 31 = 1 ∧ M' 0 0 24 = tkB (kTok T m p)) := by
  unfold f_Mo_need
  rw [m_isSign h hc, obind, if_pos (by show g32 (if kSg (kTok T m p) c then 1 else 0); exact g32_if _)]
  by_cases k : kSg (kTok T m p) c
  · rw [if_neg (fun h => (if0 _).mp h k)]
    have h31 : M 0 0 31 = 0 := by
      rcases h.w with w | w
      · exact w.1
      · exact absurd w.2 (by rw [k.1]; decide)
    obtain ⟨g1, g2, g3, g4, -⟩ := h.good
    obtain ⟨M1, x1, x2, x3⟩ := m_adv h.1 h.2.1 h31 h.2.2.1 (by have := h.2.2.2; omega)
    show ∃ M', Option.bind (f_Mo_next M) _ = _ ∧ _
    rw [x1, obind]
    exact ⟨M1, rfl, fN.ofM x2 (by decide), x3.1, (x2 0 0 27 (fun r => absurd r.2.2 (by decide))).trans ho, x2 0 0 30 (fun r => absurd r.2.2 (by decide)), Or.inl ⟨k, x3⟩⟩
  · rw [if_pos ((if0 _).mpr k)]
    exact ⟨_, rfl, fN.w1, h.1.fN fN.w1 h.1.2.2.2.2, ho, rfl, Or.inr ⟨k, mu_at _ _ _ _ _, h.2.1.2.1⟩⟩
theorem m_needD {M : mA} {c : Int} (h31 : M 0 0 31 = 1) : f_Mo_need M c = some (0, mu M 0 0 31 1) := by
  unfold f_Mo_need
  rw [m_dead h31, obind, if_pos (by show g32 0; decide), if_pos (by show (0 : Int) = 0; rfl)]
def gmOpen (one : mA → Option (Int × mA)) (A : mA) : Option (Int × mA) := (if g32 (A 0 0 27) then (if (A 0 0 27) = 4 then (some (0, (mu A 0 0 31 1))) else (Option.bind (f_Mo_isSign A 45) (fun q17 => (Option.bind (f_Mo_next (mu q17.2 0 0 27 ((q17.2 0 0 27) + 1)) ) (fun q19 => (if g32 q17.1 then (if q17.1 = 0 then (Option.bind (f_Mo_expression one q19.2 ) (fun q23 => (Option.bind (f_Mo_need (mu q23.2 0 0 27 ((q23.2 0 0 27) - 1)) 41) (fun q26 => (some (q23.1, q26.2)))))) else (Option.bind (one q19.2 ) (fun q28 => (Option.bind (f_Mo_node (mu q28.2 0 0 27 ((q28.2 0 0 27) - 1)) 2 0 q28.1 (-1)) (fun q31 => (some (q31.1, q31.2))))))) else none)))))) else none)
theorem m_open {one : mA → Option (Int × mA)} {f : Nat → kR (List Int)} (hin : mFn P T m (op + 1) one f) (hf : kPr m f) (hop : 0 ≤ op ∧ op < 4) {M : mA} {p : Nat} (h : mE9 P T m M p) (ho : M 0 0 27 = op) (h4 : tkS (kTok T m p) = 4) : ∃ z M', gmOpen one M = some (z, M') ∧ mRes P T m op M z M' (kOpen T m f p) := by
  obtain ⟨g1, g2, g3, g4, g5, g6, -⟩ := h.good
  have g7 : tkB (kTok T m p) < tkE (kTok T m p) := g4.resolve_left (by rw [h4]; decide)
  have h120 := h.1.tx.1
  have hT := h.1.tx.2
  have hnd := h.2.2.2
  have h31 : M 0 0 31 = 0 := by
    rcases h.w with w | w
    · exact w.1
    · exact absurd w.2 (by rw [h4]; decide)
  unfold gmOpen
  rw [ho, if_pos (by unfold g32; omega), if_neg (by omega), m_isSign h (by decide), obind]
  show ∃ z M', Option.bind (f_Mo_next (mu M 0 0 27 (M 0 0 27 + 1))) _ = _ ∧ _
  rw [ho]
  have fa : fN P M (mu M 0 0 27 (op + 1)) := fN.o7
  obtain ⟨M2, x1, x2, x3⟩ := m_adv (p := p) (h.1.fN fa h.1.2.2.2.2) h.2.1.o7 h31 h.2.2.1 (by show M 0 0 30 ≤ _; omega)
  have fb : fN P M M2 := fa.trans (fN.ofM x2 (by decide))
  have ho2 : M2 0 0 27 = op + 1 := (x2 0 0 27 (fun r => absurd r.2.2 (by decide))).trans (mu_at _ _ _ _ _)
  have n2 : M2 0 0 30 = M 0 0 30 := (x2 0 0 30 (fun r => absurd r.2.2 (by decide))).trans rfl
  rw [x1, obind, if_pos (by show g32 (if kSg (kTok T m p) 45 then 1 else 0); exact g32_if _)]
  unfold kOpen
  by_cases k : kSg (kTok T m p) 45
  · rw [if_pos k, if_pos k, if_neg (by show ¬ (1 : Int) = 0; decide)]
    show ∃ z M', Option.bind (one M2) _ = _ ∧ _
    obtain ⟨z, M3, y1, y2, y3, y5, y4⟩ := hin M2 _ x3 ho2
    rw [y1, obind]
    show ∃ z' M', Option.bind (f_Mo_node (mu M3 0 0 27 (M3 0 0 27 - 1)) 2 0 z (-1)) _ = _ ∧ _
    rw [y5]
    have i3 : mI9 P T m (mu M3 0 0 27 (op + 1 - 1)) := y3.fN fN.o7 y3.2.2.2.2
    have o3 : mu M3 0 0 27 (op + 1 - 1) 0 0 27 = op := (mu_at _ _ _ _ _).trans (by omega)
    cases hq : f (tkE (kTok T m p)) with
    | inl b =>
      rw [hq] at y4
      rw [m_node1 (show mu M3 0 0 27 (op + 1 - 1) 0 0 31 = 1 from y4.1), obind]
      exact ⟨0, _, rfl, (fb.trans y2).trans fN.o7, i3, o3, y4.1, y4.2⟩
    | inr x =>
      rw [hq] at y4
      obtain ⟨a1, a2, a3⟩ := y4
      obtain ⟨b1, b2, b3⟩ := hf _ g3 x hq
      rcases a1.w with ⟨w1, w2⟩ | ⟨w1, w2⟩
      · obtain ⟨v1, v2⟩ := a3 w1
        obtain ⟨M4, u1, u2, u3, u4, u5, u6, u7, u8, u9⟩ := m_node i3 w1 (by show M3 0 0 30 < 120; omega) 2 0 z (-1)
        rw [u1, obind]
        have u5' : M4 0 0 30 = M3 0 0 30 + 1 := u5
        refine ⟨_, M4, rfl, ((fb.trans y2).trans fN.o7).trans u2, u3, (u4 27 (by decide)).trans o3, ⟨u3, ?_, a1.2.2.1, by rw [u5']; show _ ≤ (x.1 : Int); omega⟩, ?_, fun _ => ⟨by rw [u5']; show M3 0 0 30 < _; omega, ?_⟩⟩
        · obtain ⟨d1, d2, d3, d4, d5⟩ := a1.2.1
          exact ⟨(u4 23 (by decide)).trans d1, (u4 24 (by decide)).trans d2, fun q => (u4 25 (by decide)).trans (d3 q), fun q1 q2 => (u4 26 (by decide)).trans (d4 q1 q2), (u4 31 (by decide)).trans d5⟩
        · rw [u5']
          show M3 0 0 30 + 1 ≤ M 0 0 30 + ((x.2 ++ [150]).length : Nat)
          rw [List.length_append, List.length_cons, List.length_nil]
          omega
        · exact nTr.neg i3.2.2.2.1 u6 u8 u9 v1 (u2.nd v1 (fN.o7.nd v1 v2))
      · rw [m_node1 (show mu M3 0 0 27 (op + 1 - 1) 0 0 31 = 1 from w1), obind]
        refine ⟨0, _, rfl, (fb.trans y2).trans fN.o7, i3, o3, ⟨i3, a1.2.1.o7, a1.2.2.1, a1.2.2.2⟩, ?_, fun q => absurd (show M3 0 0 31 = 0 from q) (by rw [w1]; decide)⟩
        show M3 0 0 30 ≤ M 0 0 30 + ((x.2 ++ [150]).length : Nat)
        rw [List.length_append, List.length_cons, List.length_nil]
        omega
  · rw [if_neg k, if_neg k, if_pos (by show (0 : Int) = 0; rfl)]
    show ∃ z M', Option.bind (f_Mo_expression one M2) _ = _ ∧ _
    obtain ⟨z, M3, y1, y2, y3, y5, y4⟩ := m_exp hin hf h120 hT M2 _ x3 ho2
    rw [y1, obind]
    show ∃ z' M', Option.bind (f_Mo_need (mu M3 0 0 27 (M3 0 0 27 - 1)) 41) _ = _ ∧ _
    rw [y5]
    have i3 : mI9 P T m (mu M3 0 0 27 (op + 1 - 1)) := y3.fN fN.o7 y3.2.2.2.2
    have o3 : mu M3 0 0 27 (op + 1 - 1) 0 0 27 = op := (mu_at _ _ _ _ _).trans (by omega)
    cases hq : kExp T m f (tkE (kTok T m p)) with
    | inl b =>
      rw [hq] at y4
      rw [m_needD (show mu M3 0 0 27 (op + 1 - 1) 0 0 31 = 1 from y4.1), obind]
      exact ⟨z, mu (mu M3 0 0 27 (op + 1 - 1)) 0 0 31 1, rfl, ((fb.trans y2).trans fN.o7).trans fN.w1, i3.fN fN.w1 i3.2.2.2.2, o3, mu_at _ _ _ _ _, y4.2⟩
    | inr x =>
      rw [hq] at y4
      obtain ⟨a1, a2, a3⟩ := y4
      obtain ⟨b1, b2, b3⟩ := kExp_pr h120 hT hf _ g3 x hq
      obtain ⟨M4, u1, u2, u3, u4, u5, u6⟩ := m_need (c := 41) (M := mu M3 0 0 27 (op + 1 - 1)) (p := x.1) ⟨i3, a1.2.1.o7, a1.2.2.1, a1.2.2.2⟩ o3 (by decide)
      rw [u1, obind]
      dsimp only
      have u5' : M4 0 0 30 = M3 0 0 30 := u5
      rcases u6 with ⟨k9, e9⟩ | ⟨k9, e9, e10⟩
      · rw [if_pos k9]
        have w1 : M3 0 0 31 = 0 := by
          rcases a1.w with w | w
          · exact w.1
          · exact absurd w.2 (by rw [k9.1]; decide)
        obtain ⟨v1, v2⟩ := a3 w1
        refine ⟨z, M4, rfl, ((fb.trans y2).trans fN.o7).trans u2, u3, u4, e9, ?_, fun _ => ⟨by rw [u5']; exact v1, u2.nd v1 (fN.o7.nd v1 v2)⟩⟩
        show M4 0 0 30 ≤ M 0 0 30 + ((x.2).length : Nat)
        omega
      · rw [if_neg k9]
        exact ⟨z, M4, rfl, ((fb.trans y2).trans fN.o7).trans u2, u3, u4, e9, e10⟩
theorem m_one {one : mA → Option (Int × mA)} {r : Nat → kR (List Int)} (hop : 0 ≤ op ∧ op ≤ 4)
    (hk : ∀ (M : mA) (p : Nat), mE9 P T m M p → M 0 0 27 = op → tkS (kTok T m p) = 4 → ∃ z M', gmOpen one M = some (z, M') ∧ mRes P T m op M z M' (r p)) : mFn P T m op (f_Mo_one one) (fun p => if tkS (kTok T m p) = 3 then .inr (tkE (kTok T m p), [tkV (kTok T m p)]) else if tkS (kTok T m p) = 1 then .inr (tkE (kTok T m p), [100 + tkV (kTok T m p)]) else if kSg (kTok T m p) 45 ∨ kSg (kTok T m p) 40 then r p else .inl (tkB (kTok T m p))) := by
  intro M p h ho
  obtain ⟨g1, g2, g3, g4, g5, g6, g8, g9, g10⟩ := h.good
  obtain ⟨e3, e4, e5, e6, e7⟩ := h.2.1
  have h120 := h.1.tx.1
  have hnd := h.2.2.2
  unfold f_Mo_one
  dsimp only
  rcases h.w with ⟨w1, w2⟩ | ⟨w1, w2⟩
  · rw [w1, if_pos (by decide), if_pos rfl, e5 w2, if_pos (by unfold g32; omega)]
    have leaf : ∀ (act : Int) (c : List Int), (act = 0 ∧ tkV (kTok T m p) ≤ 99 ∧ c = [tkV (kTok T m p)] ∨ act = 1 ∧ tkV (kTok T m p) ≤ 5 ∧ c = [100 + tkV (kTok T m p)]) → c.length = 1 → tkB (kTok T m p) < tkE (kTok T m p) → M 0 0 26 = tkV (kTok T m p) → ∃ z M', Option.bind (f_Mo_node M act (M 0 0 26) (-1) (-1)) (fun q6 => (Option.bind (f_Mo_next q6.2 ) (fun q8 => (some (q6.1, q8.2))))) = some (z, M') ∧ mRes P T m op M z M' (.inr (tkE (kTok T m p), c)) := fun act c hc hl g7 e26 => by
      obtain ⟨M2, u1, u2, u3, u4, u5, u6, u7, u8, u9⟩ := m_node h.1 w1 (by omega) act (M 0 0 26) (-1) (-1)
      rw [u1, obind]
      obtain ⟨M3, x1, x2, x3⟩ := m_adv (p := p) u3 ⟨(u4 23 (by decide)).trans e3, (u4 24 (by decide)).trans e4, fun q => (u4 25 (by decide)).trans (e5 q), fun q1 q2 => (u4 26 (by decide)).trans (e6 q1 q2), (u4 31 (by decide)).trans e7⟩ ((u4 31 (by decide)).trans w1) h.2.2.1 (by rw [u5]; omega)
      show ∃ z M', Option.bind (f_Mo_next M2) _ = _ ∧ _
      rw [x1, obind]
      have f3 : fN P M2 M3 := fN.ofM x2 (by decide)
      have n3 : M3 0 0 30 = M 0 0 30 + 1 := (x2 0 0 30 (fun r => absurd r.2.2 (by decide))).trans u5
      refine ⟨_, M3, rfl, u2.trans f3, x3.1, ((x2 0 0 27 (fun r => absurd r.2.2 (by decide))).trans (u4 27 (by decide))).trans ho, x3, by rw [n3, hl]; exact Int.le_refl _, fun _ => ⟨by rw [n3]; show M 0 0 30 < _; omega, f3.nd (by rw [u5]; show M 0 0 30 < _; omega) ⟨1, h.1.2.2.2.1, ?_⟩⟩⟩
      have hg0 := h.good.2.2.2.2.2.1.1
      have u10 : 0 ≤ M2 44 P (M 0 0 30).toNat := by omega
      rcases hc with ⟨rfl, hc, rfl⟩ | ⟨rfl, hc, rfl⟩
      · exact Or.inl ⟨u6, ⟨u8, u9, u10, by show M2 44 P (M 0 0 30).toNat ≤ 99; omega⟩, by rw [u7, e26]⟩
      · exact Or.inr (Or.inl ⟨u6, ⟨u10, by show M2 44 P (M 0 0 30).toNat ≤ 5; omega⟩, by rw [u7, e26]⟩)
    by_cases c3 : tkS (kTok T m p) = 3
    · rw [if_pos c3, if_pos c3]
      exact leaf 0 _ (Or.inl ⟨rfl, h.good.2.2.2.2.2.2.2.2 c3, rfl⟩) rfl (g4.resolve_left (by rw [c3]; decide)) (e6 (by omega) (by omega))
    rw [if_neg c3, if_neg c3]
    by_cases c1 : tkS (kTok T m p) = 1
    · rw [if_pos c1, if_pos c1]
      exact leaf 1 _ (Or.inr ⟨rfl, h.good.2.2.2.2.2.2.1 c1, rfl⟩) rfl (g4.resolve_left (by rw [c1]; decide)) (e6 (by omega) (by omega))
    rw [if_neg c1, if_neg c1, m_isSign h (by decide), obind, if_pos (by show g32 (if kSg (kTok T m p) 45 then 1 else 0); exact g32_if _)]
    by_cases k1 : kSg (kTok T m p) 45
    · rw [if_neg (fun h => (if0 _).mp h k1), if_pos (Or.inl k1)]
      exact hk M p h ho k1.1
    · rw [if_pos ((if0 _).mpr k1)]
      show ∃ z M', Option.bind (f_Mo_isSign M 40) _ = _ ∧ _
      rw [m_isSign h (by decide), obind, if_pos (by show g32 (if kSg (kTok T m p) 40 then 1 else 0); exact g32_if _)]
      by_cases k2 : kSg (kTok T m p) 40
      · rw [if_neg (fun h => (if0 _).mp h k2), if_pos (Or.inr k2)]
        exact hk M p h ho k2.1
      · rw [if_pos ((if0 _).mpr k2), if_neg (show ¬ (kSg (kTok T m p) 45 ∨ kSg (kTok T m p) 40) from fun q => q.elim k1 k2)]
        exact ⟨0, _, rfl, fN.w1, h.1.fN fN.w1 h.1.2.2.2.2, ho, mu_at _ _ _ _ _, e4⟩
  · rw [w1, if_pos (by decide), if_neg (by decide), if_neg (by rw [w2]; decide), if_neg (by rw [w2]; decide), if_neg (show ¬ (kSg (kTok T m p) 45 ∨ kSg (kTok T m p) 40) from fun q => by
      rcases q with q | q
      · exact absurd q.1 (by rw [w2]; decide)
      · exact absurd q.1 (by rw [w2]; decide))]
    exact ⟨0, M, rfl, fN.refl, h.1, ho, w1, e4⟩
theorem m_oneN : ∀ d : Nat, d ≤ 4 → ∀ n : Nat, d < n → m ≤ 120 → (∀ j, j < 120 → 0 ≤ T j ∧ T j ≤ 255) → mFn P T m (4 - d) (f_Mo_oneN n) (kOne T m d) := by
  intro d
  induction d with
  | zero =>
    intro hd n hn h120 hT
    obtain ⟨n, rfl⟩ : ∃ k, n = k + 1 := ⟨n - 1, by omega⟩
    have k := m_one (P := P) (T := T) (m := m) (op := 4 - (0 : Nat)) (one := f_Mo_oneN n) (r := fun p => .inl (tkB (kTok T m p))) (by decide) (fun M p h ho h4 => ⟨0, mu M 0 0 31 1, by
      unfold gmOpen
      rw [ho, if_pos (by decide), if_pos (by decide)], fN.w1, h.1.fN fN.w1 h.1.2.2.2.2, ho, mu_at _ _ _ _ _, h.2.1.2.1⟩)
    intro M p h ho
    obtain ⟨z, M', x1, x2⟩ := k M p h ho
    refine ⟨z, M', x1, ?_⟩
    have e : kOne T m 0 p = if tkS (kTok T m p) = 3 then .inr (tkE (kTok T m p), [tkV (kTok T m p)]) else if tkS (kTok T m p) = 1 then .inr (tkE (kTok T m p), [100 + tkV (kTok T m p)]) else if kSg (kTok T m p) 45 ∨ kSg (kTok T m p) 40 then .inl (tkB (kTok T m p)) else .inl (tkB (kTok T m p)) := rfl
    rw [e]
    exact x2
  | succ d ih =>
    intro hd n hn h120 hT
    obtain ⟨n, rfl⟩ : ∃ k, n = k + 1 := ⟨n - 1, by omega⟩
    have e1 : (4 : Int) - ((d + 1 : Nat) : Int) + 1 = 4 - (d : Int) := by omega
    have k := m_one (P := P) (T := T) (m := m) (op := 4 - ((d + 1 : Nat) : Int)) (one := f_Mo_oneN n) (r := kOpen T m (kOne T m d)) (by omega) (fun M p h ho h4 => m_open (by rw [e1]; exact ih (by omega) n (by omega) h120 hT) (kOne_pr h120 hT d) (by omega) h ho h4)
    intro M p h ho
    obtain ⟨z, M', x1, x2⟩ := k M p h ho
    exact ⟨z, M', x1, by rw [kOne_eq]; exact x2⟩
end FR3
