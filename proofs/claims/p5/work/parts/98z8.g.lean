/-! LOTS of the reference: the loop (own work) -/
theorem kMore_no {T : Nat → Int} {m n p : Nat} (h : ¬ kSg (kTok T m p) 44) : kMore T m n p = .inr (p, []) := by
  cases n with
  | zero => unfold kMore; rw [if_neg h]
  | succ n => unfold kMore; rw [if_neg h]
section ML3
variable {P i : Nat} {T : Nat → Int} {m : Nat}
theorem m_finL {M : mA} {a k : Int} (hP : P < 6) (hi : i < 16) (ha : g32 a) : (if (0 ≤ (P : Int) ∧ (P : Int) < ((6 : Nat) : Int)) then (if (0 ≤ (i : Int) ∧ (i : Int) < ((16 : Nat) : Int)) then (if g32 a then (if a = 2 then (some (0, (mu M 36 (P : Int).toNat (i : Int).toNat k))) else (if a = 4 then (some (0, (mu M 36 (P : Int).toNat (i : Int).toNat k))) else (if a = 8 then (some (0, (mu M 36 (P : Int).toNat (i : Int).toNat k))) else (if a = 16 then (some (0, (mu M 36 (P : Int).toNat (i : Int).toNat k))) else (some (0, (mu (mu M 36 (P : Int).toNat (i : Int).toNat k) 0 0 31 1))))))) else none) else none) else none) = some ((0 : Int), if 0 < kBt a then mu M 36 P i k else mu (mu M 36 P i k) 0 0 31 1) := by
  rw [if_pos (show 0 ≤ (P : Int) ∧ (P : Int) < ((6 : Nat) : Int) by omega), if_pos (show 0 ≤ (i : Int) ∧ (i : Int) < ((16 : Nat) : Int) by omega), if_pos ha, Int.toNat_natCast, Int.toNat_natCast]
  unfold kBt
  by_cases c1 : a = 2
  · rw [if_pos c1, if_pos c1]; rfl
  rw [if_neg c1, if_neg c1]
  by_cases c2 : a = 4
  · rw [if_pos c2, if_pos c2]; rfl
  rw [if_neg c2, if_neg c2]
  by_cases c3 : a = 8
  · rw [if_pos c3, if_pos c3]; rfl
  rw [if_neg c3, if_neg c3]
  by_cases c4 : a = 16
  · rw [if_pos c4, if_pos c4]; rfl
  rw [if_neg c4, if_neg c4]
  rfl
theorem mE9.num {M : mA} {p : Nat} {z : Int} (h : mE9 P T m M p) : mE9 P T m (mu M 36 P i z) p := h.keep (fun j _ => rfl) (fun _ => rfl)
/-- what lots leave -/
def mMr (P i : Nat) (T : Nat → Int) (m : Nat) (M : mA) (k a : Int) (M' : mA) (r : kR (List (Int × Int))) : Prop := fK P i M M' ∧ mI9 P T m M' ∧ kCase r (fun b => M' 0 0 31 = 1 ∧ M' 0 0 24 = b) (fun y => (0 < kBt (a + kSumW y.2) → mE9 P T m M' y.1 ∧ (M' 0 0 31 = 0 → M' 36 P i = k + y.2.length ∧ M' 0 0 29 = M 0 0 29 + y.2.length ∧ 3 * M' 0 0 29 ≤ y.1 ∧ lotsM M' P (M 0 0 29).toNat y.2)) ∧ (¬ 0 < kBt (a + kSumW y.2) → M' 0 0 31 = 1 ∧ M' 0 0 24 = tkB (kTok T m y.1)))
theorem m_stop {M : mA} {p : Nat} {a k : Int} (h : mLt P T m M p) : mMr P i T m M k a (if 0 < kBt a then mu M 36 P i k else mu (mu M 36 P i k) 0 0 31 1) (.inr (p, [])) := by
  have q2 : kBt (a + kSumW ([] : List (Int × Int))) = kBt a := congrArg kBt (Int.add_zero a)
  obtain ⟨h1, h2, h3⟩ := h
  have n1 : mE9 P T m (mu M 36 P i k) p := h1.num
  by_cases c : 0 < kBt a
  · rw [if_pos c]
    refine ⟨fK.num, n1.1, fun _ => ⟨n1, fun _ => ⟨?_, (Int.add_zero _).symm, h3, fun j hj => absurd hj (Nat.not_lt_zero j)⟩⟩, fun q => ?_⟩
    · rw [mu_at]
      exact (Int.add_zero _).symm
    · rw [q2] at q
      exact absurd c q
  · rw [if_neg c]
    refine ⟨fK.num.trans (fK.ofM (fM.mu (by decide))), n1.1.fM (l := [31]) (fM.mu (by decide)) (by decide), fun q => ?_, fun _ => ⟨mu_at _ _ _ _ _, h1.2.1.2.1⟩⟩
    rw [q2] at q
    exact absurd q c
theorem m_more (hi : i < 16) : ∀ (n k fuel p : Nat) (M : mA) (a : Int), n + k = 8 → 1 ≤ k → n < fuel → mLt P T m M p → M 0 0 31 = 0 → 1 ≤ a ∧ a ≤ 16 * k → ∃ M', f_Mo_lotsOf_8 fuel M P i a k (if kSg (kTok T m p) 44 then 1 else 0) = some (0, M') ∧ mMr P i T m M k a M' (kMore T m n p) := by
  intro n
  induction n with
  | zero =>
    intro k fuel p M a hk h1 hf h h31 ha
    obtain ⟨fuel, rfl⟩ : ∃ q, fuel = q + 1 := ⟨fuel - 1, by omega⟩
    obtain rfl : k = 8 := by omega
    have hP := h.1.1.2.2.1
    rw [f_Mo_lotsOf_8, if_pos (show g32 (if kSg (kTok T m p) 44 then 1 else 0) from g32_if _)]
    by_cases c : kSg (kTok T m p) 44
    · rw [if_neg (fun h => (if0 _).mp h c), h31, if_pos (by decide), if_pos rfl, if_pos (by decide), if_pos (by decide)]
      unfold kMore
      rw [if_pos c]
      exact ⟨mu M 0 0 31 1, rfl, fK.ofM (fM.mu (by decide)), h.1.1.fM (l := [31]) (fM.mu (by decide)) (by decide), mu_at _ _ _ _ _, h.1.2.1.2.1⟩
    · rw [if_pos ((if0 _).mpr c), m_finL hP hi (show g32 a by unfold g32; omega), kMore_no c]
      exact ⟨_, rfl, m_stop h⟩
  | succ n ih =>
    intro k fuel p M a hk h1 hf h h31 ha
    obtain ⟨fuel, rfl⟩ : ∃ q, fuel = q + 1 := ⟨fuel - 1, by omega⟩
    have hP := h.1.1.2.2.1
    have h120 := h.1.1.tx.1
    have hT := h.1.1.tx.2
    rw [f_Mo_lotsOf_8, if_pos (show g32 (if kSg (kTok T m p) 44 then 1 else 0) from g32_if _)]
    by_cases c : kSg (kTok T m p) 44
    · rw [if_neg (fun h => (if0 _).mp h c), h31, if_pos (by decide), if_pos rfl, if_pos (show g32 (k : Int) by unfold g32; omega), if_neg (show ¬ (k : Int) = 8 by omega), if_neg (show ¬ (k : Int) ≤ 0 by omega)]
      unfold kMore
      rw [if_pos c]
      show ∃ M', Option.bind (f_Mo_next M) (fun q38 => gmTail fuel P i a k q38.2) = _ ∧ _
      obtain ⟨g1, g2, g3, -⟩ := h.1.good
      have h2 := h.2.1
      have h3 := h.2.2
      obtain ⟨M1, x1, x2, x3⟩ := m_adv h.1.1 h.1.2.1 h31 h.1.2.2.1 (by have := h.1.2.2.2; omega)
      have e29 : M1 0 0 29 = M 0 0 29 := x2 0 0 29 (fun r => absurd r.2.2 (by decide))
      have hm1 : mLt P T m M1 (tkE (kTok T m p)) := ⟨x3, by rw [e29]; exact h2, by rw [e29]; omega⟩
      rw [x1, obind]
      show ∃ M', gmTail fuel P i a k M1 = _ ∧ _
      obtain ⟨M3, y1, y2⟩ := m_tail (i := i) hm1 fuel a k
      have fa : fK P i M M1 := fK.ofM x2
      have fb : fK P i M M3 := fa.trans (fK.ofM y1)
      cases hq : kLot T m (tkE (kTok T m p)) with
      | inl b =>
        rw [hq] at y2
        obtain ⟨w1, w2, w3⟩ := y2
        exact ⟨M3, w1, fb, x3.1.fM y1 (by decide), w2, w3⟩
      | inr x =>
        rw [hq] at y2
        obtain ⟨w0, w⟩ := y2
        obtain ⟨b1, b2, b3, b4⟩ := kLot_pr h120 hT g3 hq
        dsimp only
        rcases w with ⟨w1, w2⟩ | ⟨w1, M4, w2, w3, w4, w5, w6, w7, w8⟩
        · have n5 : tkS (kTok T m x.1) = 5 := by
            rcases w0.w with q | q
            · exact absurd q.1 (by rw [w1]; decide)
            · exact q.2
          rw [kMore_no (show ¬ kSg (kTok T m x.1) 44 from fun r => absurd r.1 (by rw [n5]; decide))]
          exact ⟨M3, w2, fb, w0.1, fun _ => ⟨w0, fun q => absurd q (by rw [w1]; decide)⟩, fun _ => ⟨w1, w0.2.1.2.1⟩⟩
        · obtain ⟨M5, v1, v2, v3, v4⟩ := ih (k + 1) fuel x.1 M4 (a + x.2.2) (by omega) (by omega) (by omega) w4 w5 (by omega)
          refine ⟨M5, w2.trans v1, (fa.trans w3).trans v2, v3, ?_⟩
          cases hq2 : kMore T m n x.1 with
          | inl b =>
            rw [hq2] at v4
            exact v4
          | inr y =>
            rw [hq2] at v4
            obtain ⟨u1, u2⟩ := v4
            have es : a + kSumW (x.2 :: y.2) = a + x.2.2 + kSumW y.2 := by
              have : kSumW (x.2 :: y.2) = x.2.2 + kSumW y.2 := by
                unfold kSumW
                rw [List.map_cons, List.sum_cons]
              omega
            refine ⟨fun q => ?_, fun q => ?_⟩
            · rw [es] at q
              obtain ⟨t1, t2⟩ := u1 q
              refine ⟨t1, fun q9 => ?_⟩
              obtain ⟨t3, t4, t5, t6⟩ := t2 q9
              refine ⟨?_, ?_, t5, fun j hj => ?_⟩
              · rw [t3]
                show _ = (k : Int) + ((y.2.length + 1 : Nat) : Int)
                omega
              · rw [t4, w6, e29]
                show _ = _ + ((y.2.length + 1 : Nat) : Int)
                omega
              · cases j with
                | zero =>
                  have e1 := v2.lot (f := 41) (Or.inl rfl) (M 0 0 29).toNat (by omega)
                  have e2 := v2.lot (f := 42) (Or.inr rfl) (M 0 0 29).toNat (by omega)
                  rw [e29] at w7 w8
                  exact ⟨e1.trans w7, e2.trans w8⟩
                | succ j =>
                  have := t6 j (by
                    have hj' : j + 1 < y.2.length + 1 := hj
                    omega)
                  have e3 : (M4 0 0 29).toNat + j = (M 0 0 29).toNat + (j + 1) := by omega
                  rw [e3] at this
                  exact this
            · rw [es] at q
              exact u2 q
    · rw [if_pos ((if0 _).mpr c), m_finL hP hi (show g32 a by unfold g32; omega), kMore_no c]
      exact ⟨_, rfl, m_stop h⟩
end ML3
