/-! STEPS of the reference (own work): what comes behind a step's word -/
/-- a step as it is begun -/
def mNew (P k : Nat) (M : mA) (kind : Int) : Prop := M 34 P k = kind ∧ M 35 P k = -1 ∧ M 36 P k = -1 ∧ M 39 P k = -1 ∧ M 40 P k = M 0 0 29
section MK
variable {P : Nat} {T : Nat → Int} {m d k : Nat}
theorem fN.row {M M' : mA} (h : fN P M M') (f a j : Nat) (h1 : 1 ≤ f) (h2 : f < 43) : M' f a j = M f a j := h.2 f a j (fun r => by
  rcases r with r | r <;> omega)
theorem fM.row {M M' : mA} {l : List Nat} (h : fM M M' l) (f a j : Nat) (h1 : 1 ≤ f) : M' f a j = M f a j := h f a j (fun r => by
  have := r.1
  omega)
/-- a step's end -/
theorem m_fin {M M4 : mA} {q : Nat} {s : kS} {y : List kS} (hf : fT P k M M4) (h : mTk P T m M4 q (k + (y.length + 1))) (ho : M4 0 0 27 = 4 - d) (hs : sI s = 1 + y.length) (hi : M4 0 0 31 = 0 → mPre P M4 k s ∧ M4 38 P k = ((k + sO s : Nat) : Int) ∧ mAll P M4 (k + 1) y) : mRs P T m d k M (mu M4 37 P k (M4 0 0 28)) (.inr (q, s :: y)) := by
  refine ⟨hf.trans (fT.row (by decide) (Nat.le_refl k)) (Nat.le_refl k), h.row (by decide), ho, fun q9 => ?_⟩
  have a : M4 0 0 31 = 0 := q9
  obtain ⟨i1, i2, i3⟩ := hi a
  obtain ⟨-, -, b3⟩ := h.2.1 a
  refine mAll.cons ⟨i1.wr (by decide) (Or.inr (Or.inl rfl)), ?_, ?_⟩ (i3.wr (by decide) (by omega))
  · rw [mu_at, b3, hs]
    omega
  · rw [mu_ne _ _ (fun r => absurd r.1 (by decide))]
    exact i2
theorem m_flt {M M4 : mA} {b : Nat} {z : Int} (hf : fT P k M M4) (h1 : M4 0 0 31 = 1) (h2 : M4 0 0 24 = b) : mRs P T m d k M (mu M4 37 P k z) (.inl b) := ⟨hf.trans (fT.row (by decide) (Nat.le_refl k)) (Nat.le_refl k), h1, h2⟩
theorem m_fin1 {M M3 : mA} {q : Nat} {s : kS} (hf : fT P k M M3) (h : mTk P T m M3 q (k + 1)) (ho : M3 0 0 27 = 4 - d) (hs : sI s = 1) (hs2 : sO s = 1) (hi : M3 0 0 31 = 0 → mPre P M3 k s) : mRs P T m d k M (mu (mu M3 38 P k (M3 0 0 28)) 37 P k (M3 0 0 28)) (.inr (q, [s])) := by
  refine m_fin (M4 := mu M3 38 P k (M3 0 0 28)) (y := []) (hf.trans (fT.row (by decide) (Nat.le_refl k)) (Nat.le_refl k)) (h.row (by decide)) ho hs (fun a => ⟨(hi a).wr (by decide) (Or.inr (Or.inr rfl)), ?_, mAll.nil⟩)
  obtain ⟨-, -, b3⟩ := h.2.1 a
  rw [mu_at, b3, hs2]
theorem m_flt1 {M M3 : mA} {b : Nat} {z z' : Int} (hf : fT P k M M3) (h1 : M3 0 0 31 = 1) (h2 : M3 0 0 24 = b) : mRs P T m d k M (mu (mu M3 38 P k z) 37 P k z') (.inl b) := m_flt (M4 := mu M3 38 P k z) (hf.trans (fT.row (by decide) (Nat.le_refl k)) (Nat.le_refl k)) h1 h2
theorem kLots_5 {p : Nat} (h : tkS (kTok T m p) = 5) : kLots T m p = .inl (tkB (kTok T m p)) := by
  unfold kLots kLot
  rw [if_neg (fun r => absurd r.1 (by rw [h]; decide))]
def gmDraw (P k : Nat) (M : mA) : Option (Int × mA) := Option.bind (f_Mo_takes M 1 0 5) (fun q19 => Option.bind (f_Mo_lotsOf (mu q19.2 35 P k q19.1) P k) (fun q22 => some (0, mu (mu q22.2 38 P k (q22.2 0 0 28)) 37 P k (q22.2 0 0 28))))
theorem m_drawR {others : Int} {ex : Nat → kR (List Int)} {br : Nat → Nat → kR (List kS)} {M : mA} {p : Nat} (h : mTk P T m M p (k + 1)) (hn : mNew P k M 0) (ho : M 0 0 27 = 4 - d) : ∃ M', gmDraw P k M = some (0, M') ∧ mRs P T m d k M M' (kRest T m (4 - d) others ex br 0 k p) := by
  have hP := h.1.1.2.2.1
  have hk : k < 16 := by have := h.2.2; omega
  obtain ⟨n4, n5, n6, n9, n10⟩ := hn
  obtain ⟨z, M1, x1, x2, x3⟩ := m_takes h.1 (so := 1) (lo := 0) (hi := 5) (Or.inl rfl) (by decide) (by decide)
  obtain ⟨g1, g2, g3, g4, g5, g6, g8, -⟩ := h.1.good
  unfold gmDraw
  rw [x1, obind]
  show ∃ M', Option.bind (f_Mo_lotsOf (mu M1 35 P k z) P k) _ = _ ∧ _
  have e : kRest T m (4 - d) others ex br 0 k p = kName T m p (fun v p => kThen (kLots T m p) (fun q c => if 0 < kBt (kSumW c) then .inr (q, [(0, v, (c.length : Int), 1, 1, [], c, 4 - (d : Int))]) else .inl (tkB (kTok T m q)))) := rfl
  rw [e]
  unfold kName
  have f1 : fT P k M (mu M1 35 P k z) := (fT.ofM x2 (by decide)).trans (fT.row (by decide) (Nat.le_refl k)) (Nat.le_refl k)
  rcases x3 with ⟨c, cz, y1⟩ | ⟨c, cz, y1, y2⟩
  · rw [if_pos c.1]
    have a0 := h.1.alive (by rw [c.1]; decide)
    have s1 : mTk P T m (mu M1 35 P k z) (tkE (kTok T m p)) (k + 1) := (h.goM x2 y1 (by omega) (fun _ => a0)).row (by decide)
    rcases s1.1.w with ⟨w1, w2⟩ | ⟨w1, w2⟩
    · obtain ⟨l1, l2, l3⟩ := s1.2.1 w1
      obtain ⟨M3, v1, v2, v3, v4⟩ := m_lots (i := k) hk ⟨s1.1, l1, l2⟩
      rw [v1, obind]
      dsimp only
      have f3 : fT P k M M3 := f1.trans (fT.ofK v2 (Nat.le_refl k)) (Nat.le_refl k)
      cases hq : kLots T m (tkE (kTok T m p)) with
      | inl b =>
        rw [hq] at v4
        exact ⟨_, rfl, m_flt1 f3 v4.1 v4.2⟩
      | inr y =>
        rw [hq] at v4
        obtain ⟨u1, u2⟩ := v4
        rw [Int.zero_add] at u1 u2
        unfold kThen
        dsimp only
        by_cases c9 : 0 < kBt (kSumW y.2)
        · obtain ⟨t1, t2⟩ := u1 c9
          rw [if_pos c9]
          have e28 : M3 0 0 28 = (mu M1 35 P k z) 0 0 28 := v2.2 0 0 28 (fun r => by
            rcases r with r | r | r
            · exact absurd r.2.2 (by decide)
            · omega
            · omega)
          have e27 : M3 0 0 27 = (mu M1 35 P k z) 0 0 27 := v2.2 0 0 27 (fun r => by
            rcases r with r | r | r
            · exact absurd r.2.2 (by decide)
            · omega
            · omega)
          have er : ∀ f, 34 ≤ f ∧ f ≤ 40 ∧ f ≠ 36 ∧ f ≠ 35 → M3 f P k = M f P k := fun f q => by
            rw [v2.2 f P k (fun r => by rcases r with r | r | r <;> omega), mu_ne _ _ (fun r => by omega)]
            exact x2.row f P k (by omega)
          have e35 : M3 35 P k = z := (v2.2 35 P k (fun r => by rcases r with r | r | r <;> omega)).trans (mu_at _ _ _ _ _)
          have e29 : (mu M1 35 P k z) 0 0 29 = M 0 0 29 := x2 0 0 29 (fun r => absurd r.2.2 (by decide))
          refine ⟨_, rfl, m_fin1 f3 ⟨t1, fun q => ?_, h.2.2⟩ ?_ rfl rfl (fun q => ?_)⟩
          · obtain ⟨t3, t4, t5, t6⟩ := t2 q
            refine ⟨?_, t5, ?_⟩
            · rw [t4]
              omega
            · rw [e28]
              exact l3
          · rw [e27]
            exact (x2 0 0 27 (fun r => absurd r.2.2 (by decide))).trans ho
          · obtain ⟨t3, t4, t5, t6⟩ := t2 q
            refine ⟨⟨?_, ?_, ?_⟩, fun q1 _ => absurd rfl q1, fun _ => ?_, fun _ => ⟨(M 0 0 29).toNat, ?_, ?_, ?_⟩⟩
            · rw [er 34 (by decide)]
              exact n4
            · rw [e35]
              exact cz
            · rw [t3, Int.zero_add]
            · rw [er 39 (by decide)]
              exact n9
            · rw [er 40 (by decide), n10]
              omega
            · rw [t4]
              show (((M 0 0 29).toNat + y.2.length : Nat) : Int) ≤ _
              omega
            · rw [e29] at t6
              exact t6
        · obtain ⟨t1, t2⟩ := u2 c9
          rw [if_neg c9]
          exact ⟨_, rfl, m_flt1 f3 t1 t2⟩
    · rw [m_lotsD hP hk w1, obind]
      dsimp only
      rw [kLots_5 w2]
      exact ⟨_, rfl, m_flt1 (M3 := mu (mu (mu M1 35 P k z) 36 P k 0) 0 0 31 1) ((f1.trans (fT.row (by decide) (Nat.le_refl k)) (Nat.le_refl k)).trans fT.w1 (Nat.le_refl k)) (mu_at _ _ _ _ _) s1.1.2.1.2.1⟩
  · rw [if_neg (fun r => c ⟨r, by have := g8 r; omega⟩), m_lotsD hP hk (show mu M1 35 P k z 0 0 31 = 1 from y1), obind]
    exact ⟨_, rfl, m_flt1 (M3 := mu (mu (mu M1 35 P k z) 36 P k 0) 0 0 31 1) ((f1.trans (fT.row (by decide) (Nat.le_refl k)) (Nat.le_refl k)).trans fT.w1 (Nat.le_refl k)) (mu_at _ _ _ _ _) y2⟩
end MK
