/-! odds of the reference: split, draw (own work) -/
section ROPT
variable {A : mA} {P i a u : Nat} {e : kS} {l : List xE}
/-- IF, SEE: those of one side -/
theorem m_spl (hP : P < 6) (hi : i < 16) (hM : mS9 A P i e) (hr : rg9 i e) (k0 : sK e ≠ 0) (k4 : sK e ≠ 4) (hu : A 0 0 33 = u) (h200 : u < 200) (ha : a < u) (hl : oC A a = l) (hq : oQ A a) (hw : ∀ q ∈ l, g64 q.2) {b : Int} (hb : b = 0 ∨ b = 1) (p : xE → Bool) (hp : ∀ q, p q = true ↔ ((xv e q.1 ≠ 0) ↔ b = 1)) : ∃ A', f_Mo_split A P i a b = some ((u : Int), A') ∧ pF u A A' ∧ A' 0 0 33 = ((u + 1 : Nat) : Int) ∧ oQ A' u ∧ oC A' u = mcl [] (l.filter p) := by
  obtain ⟨A1, t1, t2, t3, t4, t5⟩ := m_tkn hu h200
  have hlen : l.length = (A 1 a 2).toNat := by rw [← hl, oC_len]
  have h1a := hq.1
  have gb : g32 b := by unfold g32; omega
  have go : ∀ (F j : Nat) (B : mA), j ≤ l.length → l.length - j < F → pF u A B → B 0 0 33 = ((u + 1 : Nat) : Int) → oQ B u → oC B u = mcl [] ((l.take j).filter p) → ∃ A', f_Mo_split_9 F B P i a b u j = some ((u : Int), A') ∧ pF u A A' ∧ A' 0 0 33 = ((u + 1 : Nat) : Int) ∧ oQ A' u ∧ oC A' u = mcl [] (l.filter p) := by
    intro F
    induction F with
    | zero => intro j B _ h; omega
    | succ F ih =>
      intro j B h1 h2 hf h33 hQ hC
      have hMB := hM.fr (A' := B) hr hi (fun f j h _ => hf.tab f P j (by omega))
      unfold f_Mo_split_9
      rw [hf 1 a 2 (by omega), if_pos (show g32 (j : Int) by unfold g32; omega), if_pos (show g32 (A 1 a 2) by unfold g32; omega)]
      by_cases z : l.length ≤ j
      · rw [if_pos (show A 1 a 2 ≤ (j : Int) by omega)]
        rw [List.take_of_length_le z] at hC
        exact ⟨B, rfl, hf, h33, hQ, hC⟩
      · have hj : j < l.length := by omega
        rw [if_neg (show ¬ A 1 a 2 ≤ (j : Int) by omega), if_pos (show 0 ≤ (P : Int) ∧ (P : Int) < ((6 : Nat) : Int) by omega), if_pos (show 0 ≤ (i : Int) ∧ (i : Int) < ((16 : Nat) : Int) by omega), if_pos (show 0 ≤ (j : Int) ∧ (j : Int) < ((301 : Nat) : Int) by omega)]
        simp only [Int.toNat_natCast]
        subst hl
        have e1 := oC_at hj
        have hst := hq.2.1 _ (List.getElem_mem hj)
        have hwj := hw _ (List.getElem_mem hj)
        rw [hf 3 a j (by omega), ← e1.1]
        obtain ⟨x1, x2, x3, x4⟩ := m_xv hP hMB k0 k4 (tn9_r hst)
        rw [x1, obind]
        have e3 : ((j : Int) + 1) = ((j + 1 : Nat) : Int) := by omega
        have put : p ((oC A a)[j]) = true → ∃ A', Option.bind (f_Odds_come B u (B 3 a j) (B 4 a j)) (fun q14 => f_Mo_split_9 F q14.2 P i a b u ((j : Int) + 1)) = some ((u : Int), A') ∧ pF u A A' ∧ A' 0 0 33 = ((u + 1 : Nat) : Int) ∧ oQ A' u ∧ oC A' u = mcl [] ((oC A a).filter p) := fun hpq => by
          rw [hf 3 a j (by omega), hf 4 a j (by omega), ← e1.1, ← e1.2]
          obtain ⟨B2, y1, y2, y3, y4⟩ := o_come hQ hst hwj
          rw [y1, obind]
          show ∃ A', f_Mo_split_9 F B2 P i a b u ((j : Int) + 1) = _ ∧ _
          rw [e3]
          refine ih (j + 1) B2 hj (by omega) (hf.trans (pF.r y3 (Nat.le_refl _))) (by rw [y3 0 0 33 (by omega)]; exact h33) y4 ?_
          rw [y2, hC, take_s hj, List.filter_append, List.filter_cons_of_pos hpq, mcl_app]
          rfl
        have skip : p ((oC A a)[j]) = false → ∃ A', f_Mo_split_9 F B P i a b u ((j : Int) + 1) = some ((u : Int), A') ∧ pF u A A' ∧ A' 0 0 33 = ((u + 1 : Nat) : Int) ∧ oQ A' u ∧ oC A' u = mcl [] ((oC A a).filter p) := fun hpq => by
          rw [e3]
          refine ih (j + 1) B hj (by omega) hf h33 hQ ?_
          rw [hC, take_s hj, List.filter_append, List.filter_cons_of_neg (by rw [hpq]; decide)]
          simp
        have hpj := hp ((oC A a)[j])
        show ∃ A', (if g32 (xv e ((oC A a)[j]).1) then (if xv e ((oC A a)[j]).1 = 0 then (if g32 b then (if 0 = b then Option.bind (f_Odds_come B u (B 3 a j) (B 4 a j)) (fun q14 => f_Mo_split_9 F q14.2 P i a b u ((j : Int) + 1)) else f_Mo_split_9 F B P i a b u ((j : Int) + 1)) else none) else (if g32 b then (if 1 = b then Option.bind (f_Odds_come B u (B 3 a j) (B 4 a j)) (fun q14 => f_Mo_split_9 F q14.2 P i a b u ((j : Int) + 1)) else f_Mo_split_9 F B P i a b u ((j : Int) + 1)) else none)) else none) = _ ∧ _
        rw [if_pos x2]
        by_cases kx : xv e ((oC A a)[j]).1 = 0
        · rw [if_pos kx, if_pos gb]
          by_cases k9 : 0 = b
          · rw [if_pos k9]
            exact put (hpj.mpr ⟨fun h => absurd kx h, fun h => by omega⟩)
          · rw [if_neg k9]
            refine skip ?_
            cases hc : p ((oC A a)[j]) with
            | false => rfl
            | true =>
              have := hpj.mp hc
              exact absurd kx (this.mpr (by omega))
        · rw [if_neg kx, if_pos gb]
          by_cases k9 : 1 = b
          · rw [if_pos k9]
            exact put (hpj.mpr ⟨fun _ => k9.symm, fun _ => kx⟩)
          · rw [if_neg k9]
            refine skip ?_
            cases hc : p ((oC A a)[j]) with
            | false => rfl
            | true =>
              have := hpj.mp hc
              exact absurd (this.mp kx) (fun h => k9 h.symm)
  unfold f_Mo_split
  rw [t1, obind]
  show ∃ A', f_Mo_split_9 310 A1 P i a b ((u : Int)).toNat 0 = _ ∧ _
  rw [Int.toNat_natCast]
  exact go 310 0 A1 (Nat.zero_le _) (by omega) t2 t3 t5 (by rw [t4]; rfl)
/-- DRAW -/
theorem m_drw {n0 : Nat} (hP : P < 6) (hi : i < 16) (h36 : A 36 P i = ((sL e).length : Int)) (h40 : A 40 P i = n0) (h35 : A 35 P i = sN e) (hn0 : n0 + (sL e).length ≤ 120) (hlm : lotsM A P n0 (sL e)) (hlo : lotsOk (sL e)) (hb : 0 < kBt (kSumW (sL e))) (hn : 0 ≤ sN e ∧ sN e < 6) (hu : A 0 0 33 = u) (h200 : u < 200) (ha : a < u) (hl : oC A a = l) (hq : oQ A a) (hw : ∀ q ∈ l, 0 ≤ q.2 ∧ q.2 ≤ 1125899906842624) : ∃ A', f_Mo_draw A P i a = some ((u : Int), A') ∧ pF u A A' ∧ A' 0 0 33 = ((u + 1 : Nat) : Int) ∧ oQ A' u ∧ oC A' u = mcl [] (l.flatMap (xDraw e)) := by
  obtain ⟨A1, t1, t2, t3, t4, t5⟩ := m_tkn hu h200
  have hlen : l.length = (A 1 a 2).toNat := by rw [← hl, oC_len]
  have h1a := hq.1
  obtain ⟨lo1, lo8, lo⟩ := hlo
  obtain ⟨k, k4', kS', -⟩ := kBt_S hb
  have hS : 0 < kSumW (sL e) ∧ kSumW (sL e) ≤ 16 := by
    rw [kS']
    have h1 : (2 : Int) ^ k > 0 := Int.pow_pos (by decide)
    refine ⟨h1, ?_⟩
    have : k = 0 ∨ k = 1 ∨ k = 2 ∨ k = 3 ∨ k = 4 := by omega
    rcases this with rfl | rfl | rfl | rfl | rfl <;> decide
  subst hl
  have inn : ∀ (c17 : mA → Int → Int → Nat → Nat → Int → Int → Option (Int × mA)) (j : Nat) (hj : j < (oC A a).length) (F t : Nat) (B : mA), t ≤ (sL e).length → (sL e).length - t < F → pF u A B → B 0 0 33 = ((u + 1 : Nat) : Int) → oQ B u → oC B u = mcl [] (((oC A a).take j).flatMap (xDraw e) ++ (xDraw e (oC A a)[j]).take t) →
      (∀ B', pF u A B' → B' 0 0 33 = ((u + 1 : Nat) : Int) → oQ B' u → oC B' u = mcl [] (((oC A a).take (j + 1)).flatMap (xDraw e)) → ∃ A', c17 B' P i a u (kSumW (sL e)) ((j : Int) + 1) = some ((u : Int), A') ∧ pF u A A' ∧ A' 0 0 33 = ((u + 1 : Nat) : Int) ∧ oQ A' u ∧ oC A' u = mcl [] ((oC A a).flatMap (xDraw e))) →
      ∃ A', f_Mo_draw_36 c17 F B P i a u (kSumW (sL e)) j ((n0 + t : Nat) : Int) = some ((u : Int), A') ∧ pF u A A' ∧ A' 0 0 33 = ((u + 1 : Nat) : Int) ∧ oQ A' u ∧ oC A' u = mcl [] ((oC A a).flatMap (xDraw e)) := by
    intro c17 j hj F
    have hdl : (xDraw e (oC A a)[j]).length = (sL e).length := by unfold xDraw; rw [List.length_map]
    have e1 := oC_at hj
    have hst := hq.2.1 _ (List.getElem_mem hj)
    have hwj := hw _ (List.getElem_mem hj)
    have hj301 : j < 301 := by omega
    induction F with
    | zero => intro t B _ h; omega
    | succ F ih =>
      intro t B h1 h2 hf h33 hQ hC hk
      unfold f_Mo_draw_36
      simp only [Int.toNat_natCast]
      rw [if_pos (show 0 ≤ (P : Int) ∧ (P : Int) < ((6 : Nat) : Int) by omega), if_pos (show 0 ≤ (i : Int) ∧ (i : Int) < ((16 : Nat) : Int) by omega), hf.tab 40 P i (by omega), hf.tab 36 P i (by omega), h36, h40, if_pos (show g32 ((n0 + t : Nat) : Int) by unfold g32; omega), if_pos (show g32 ((n0 : Int) + ((sL e).length : Int)) by unfold g32; omega)]
      by_cases z : (sL e).length ≤ t
      · rw [if_pos (show (n0 : Int) + ((sL e).length : Int) ≤ ((n0 + t : Nat) : Int) by omega)]
        refine hk B hf h33 hQ ?_
        rw [hC, show (xDraw e (oC A a)[j]).take t = xDraw e (oC A a)[j] from List.take_of_length_le (by omega), take_s hj, List.flatMap_append]
        simp
      · have ht : t < (sL e).length := by omega
        rw [if_neg (show ¬ (n0 : Int) + ((sL e).length : Int) ≤ ((n0 + t : Nat) : Int) by omega), if_pos (show 0 ≤ (j : Int) ∧ (j : Int) < ((301 : Nat) : Int) by omega), if_pos (show 0 ≤ ((n0 + t : Nat) : Int) ∧ ((n0 + t : Nat) : Int) < ((120 : Nat) : Int) by omega)]
        obtain ⟨lq, hlq⟩ : ∃ lq, lq = (sL e).getD t (0, 0) := ⟨_, rfl⟩
        obtain ⟨p1, p2⟩ := hlm t ht
        rw [← hlq] at p1 p2
        have lt : (sL e)[t] = lq := by
          rw [hlq, List.getD_eq_getElem?_getD, List.getElem?_eq_getElem ht]
          rfl
        have llo := lo lq (by rw [← lt]; exact List.getElem_mem ht)
        rw [hf 3 a j (by omega), ← e1.1, hf.tab 35 P i (by omega), h35, hf.tab 41 P _ (by omega), p1, m_wth hst hn llo.1, obind]
        show ∃ A', (if g32 (kSumW (sL e)) then (if g64 (B 4 a j) then (if g64 (kSumW (sL e)) then (if kSumW (sL e) ≠ 0 then (if g32 (B 42 P (n0 + t)) then Option.bind (f_Odds_come B u (wth ((oC A a)[j]).1 (sN e).toNat lq.1) ((Int.tdiv (B 4 a j) (kSumW (sL e))) * (B 42 P (n0 + t)))) (fun q20 => f_Mo_draw_36 c17 F q20.2 P i a u (kSumW (sL e)) j (((n0 + t : Nat) : Int) + 1)) else none) else none) else none) else none) else none) = _ ∧ _
        rw [hf.tab 42 P _ (by omega), p2, hf 4 a j (by omega), ← e1.2]
        rw [if_pos (show g32 (kSumW (sL e)) by unfold g32; omega), if_pos (show g64 ((oC A a)[j]).2 by unfold g64; omega), if_pos (show g64 (kSumW (sL e)) by unfold g64; omega), if_pos (show kSumW (sL e) ≠ 0 by omega), if_pos (show g32 lq.2 by unfold g32; omega), Int.tdiv_eq_ediv_of_nonneg hwj.1]
        have d1 : 0 ≤ ((oC A a)[j]).2 / kSumW (sL e) := Int.ediv_nonneg hwj.1 (Int.le_of_lt hS.1)
        have d2 : ((oC A a)[j]).2 / kSumW (sL e) ≤ ((oC A a)[j]).2 := Int.ediv_le_self _ hwj.1
        have d3 : 0 ≤ ((oC A a)[j]).2 / kSumW (sL e) * lq.2 := Int.mul_nonneg d1 (by omega)
        have d4 : ((oC A a)[j]).2 / kSumW (sL e) * lq.2 ≤ 1125899906842624 * 16 := Int.mul_le_mul (by omega) llo.2.2 (by omega) (by decide)
        obtain ⟨B2, y1, y2, y3, y4⟩ := o_come (w := ((oC A a)[j]).2 / kSumW (sL e) * lq.2) hQ (wth_r hst (v := lq.1) (n := (sN e).toNat) llo.1) (by unfold g64; omega)
        rw [y1, obind]
        have e3 : (((n0 + t : Nat) : Int) + 1) = ((n0 + (t + 1) : Nat) : Int) := by omega
        show ∃ A', f_Mo_draw_36 c17 F B2 P i a u (kSumW (sL e)) j (((n0 + t : Nat) : Int) + 1) = _ ∧ _
        rw [e3]
        refine ih (t + 1) B2 ht (by omega) (hf.trans (pF.r y3 (Nat.le_refl _))) (by rw [y3 0 0 33 (by omega)]; exact h33) y4 ?_ hk
        have egt : (xDraw e (oC A a)[j])[t]'(by omega) = (wth ((oC A a)[j]).1 (sN e).toNat lq.1, ((oC A a)[j]).2 / kSumW (sL e) * lq.2) := by
          unfold xDraw
          rw [List.getElem_map, lt]
        rw [y2, hC, take_s (L := xDraw e (oC A a)[j]) (by omega), ← List.append_assoc, egt]
        exact (mcl_app (y := [(wth ((oC A a)[j]).1 (sN e).toNat lq.1, ((oC A a)[j]).2 / kSumW (sL e) * lq.2)])).symm
  have go : ∀ (F j : Nat) (B : mA), j ≤ (oC A a).length → (oC A a).length - j < F → pF u A B → B 0 0 33 = ((u + 1 : Nat) : Int) → oQ B u → oC B u = mcl [] (((oC A a).take j).flatMap (xDraw e)) → ∃ A', f_Mo_draw_17 F B P i a u (kSumW (sL e)) j = some ((u : Int), A') ∧ pF u A A' ∧ A' 0 0 33 = ((u + 1 : Nat) : Int) ∧ oQ A' u ∧ oC A' u = mcl [] ((oC A a).flatMap (xDraw e)) := by
    intro F
    induction F with
    | zero => intro j B _ h; omega
    | succ F ih =>
      intro j B h1 h2 hf h33 hQ hC
      unfold f_Mo_draw_17
      simp only [Int.toNat_natCast]
      rw [hf 1 a 2 (by omega), if_pos (show g32 (j : Int) by unfold g32; omega), if_pos (show g32 (A 1 a 2) by unfold g32; omega)]
      by_cases z : (oC A a).length ≤ j
      · rw [if_pos (show A 1 a 2 ≤ (j : Int) by omega)]
        rw [List.take_of_length_le z] at hC
        exact ⟨B, rfl, hf, h33, hQ, hC⟩
      · have hj : j < (oC A a).length := by omega
        rw [if_neg (show ¬ A 1 a 2 ≤ (j : Int) by omega), if_pos (show 0 ≤ (P : Int) ∧ (P : Int) < ((6 : Nat) : Int) by omega), if_pos (show 0 ≤ (i : Int) ∧ (i : Int) < ((16 : Nat) : Int) by omega), hf.tab 40 P i (by omega), h40]
        have e3 : ((j : Int) + 1) = ((j + 1 : Nat) : Int) := by omega
        refine inn (f_Mo_draw_17 F) j hj 310 0 B (Nat.zero_le _) (by omega) hf h33 hQ (by rw [List.take_zero, List.append_nil]; exact hC) (fun B' b1 b2 b3 b4 => ?_)
        rw [e3]
        exact ih (j + 1) B' hj (by omega) b1 b2 b3 b4
  have la : f_Mo_lotsAll A1 P i = some (kSumW (sL e), A1) := m_lotsAll (M := A1) hP hi ((t2.tab 36 P i (by omega)).trans h36) ((t2.tab 40 P i (by omega)).trans h40) (fun j hj => by rw [t2.tab 41 P _ (by omega), t2.tab 42 P _ (by omega)]; exact hlm j hj) hn0 lo8
  unfold f_Mo_draw
  rw [t1, obind]
  show ∃ A', Option.bind (f_Mo_lotsAll A1 P i) (fun q31 => f_Mo_draw_17 310 q31.2 P i a ((u : Int)).toNat q31.1 0) = _ ∧ _
  rw [la, obind, Int.toNat_natCast]
  exact go 310 0 A1 (Nat.zero_le _) (by omega) t2 t3 t5 (by rw [t4]; rfl)
end ROPT
