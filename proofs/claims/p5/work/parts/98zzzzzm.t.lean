/-! odds of the reference read; ratios of both (own work) -/
section ORD
variable {A : mA} {o : Nat}
theorem m_allO (h : oQ A o) : f_Odds_all A o = some (tot (oC A o), A) := by
  have hlen : (oC A o).length = (A 1 o 2).toNat := oC_len
  have h1 := h.1
  have go : ∀ (F j : Nat), j ≤ (oC A o).length → (oC A o).length - j < F → f_Odds_all_4 F A o (tot ((oC A o).take j)) j = some (tot (oC A o), A) := by
    intro F
    induction F with
    | zero => intro j _ h; omega
    | succ F ih =>
      intro j h1 h2
      unfold f_Odds_all_4
      rw [if_pos (show g32 (j : Int) by unfold g32; omega), if_pos (show g32 (A 1 o 2) by unfold g32; omega)]
      by_cases z : (oC A o).length ≤ j
      · rw [if_pos (show A 1 o 2 ≤ (j : Int) by omega), List.take_of_length_le z]
      · have hj : j < (oC A o).length := by omega
        rw [if_neg (show ¬ A 1 o 2 ≤ (j : Int) by omega), if_pos (show 0 ≤ (j : Int) ∧ (j : Int) < ((301 : Nat) : Int) by omega), Int.toNat_natCast, ← (oC_at hj).2, ← tot_take hj, show ((j : Int) + 1) = ((j + 1 : Nat) : Int) by omega]
        exact ih (j + 1) hj (by omega)
  exact go 310 0 (Nat.zero_le _) (by omega)
theorem m_valAt (h : oQ A o) {j : Nat} (hj : j < (oC A o).length) {n : Nat} (hn : n < 6) : f_Mo_valueOf A (A 3 o j) n = some (dd ((oC A o)[j]).1 n, A) ∧ 0 ≤ dd ((oC A o)[j]).1 n ∧ dd ((oC A o)[j]).1 n ≤ 9 := by
  have hst := h.2.1 _ (List.getElem_mem hj)
  rw [← (oC_at hj).1]
  exact ⟨m_valueOf (tn9_r hst) (n := (n : Int)) (by omega), dd_r _ n⟩
theorem m_wOf (h : oQ A o) {n : Nat} (hn : n < 6) {v : Int} (gv : g32 v) : f_Mo_weightOf A o n v = some (xwN (oC A o) n v, A) := by
  have hlen : (oC A o).length = (A 1 o 2).toNat := oC_len
  have h1 := h.1
  have go : ∀ (F j : Nat), j ≤ (oC A o).length → (oC A o).length - j < F → f_Mo_weightOf_5 F A o n v (xwN ((oC A o).take j) n v) j = some (xwN (oC A o) n v, A) := by
    intro F
    induction F with
    | zero => intro j _ h; omega
    | succ F ih =>
      intro j h1 h2
      unfold f_Mo_weightOf_5
      rw [if_pos (show g32 (j : Int) by unfold g32; omega), if_pos (show g32 (A 1 o 2) by unfold g32; omega)]
      by_cases z : (oC A o).length ≤ j
      · rw [if_pos (show A 1 o 2 ≤ (j : Int) by omega), List.take_of_length_le z]
      · have hj : j < (oC A o).length := by omega
        obtain ⟨e1, e2, e3⟩ := m_valAt h hj hn
        rw [if_neg (show ¬ A 1 o 2 ≤ (j : Int) by omega), if_pos (show 0 ≤ (j : Int) ∧ (j : Int) < ((301 : Nat) : Int) by omega), Int.toNat_natCast, e1, obind]
        dsimp only
        rw [if_pos (show g32 (dd ((oC A o)[j]).1 n) by unfold g32; omega), if_pos gv, show ((j : Int) + 1) = ((j + 1 : Nat) : Int) by omega]
        have es : xwN ((oC A o).take (j + 1)) n v = xwN ((oC A o).take j) n v + (if dd ((oC A o)[j]).1 n = v then ((oC A o)[j]).2 else 0) := by rw [take_s hj, xwN_app]
        by_cases q : dd ((oC A o)[j]).1 n = v
        · rw [if_pos q] at es ⊢
          rw [← (oC_at hj).2, ← es]
          exact ih (j + 1) hj (by omega)
        · rw [if_neg q, Int.add_zero] at es
          rw [if_neg q, ← es]
          exact ih (j + 1) hj (by omega)
  exact go 310 0 (Nat.zero_le _) (by omega)
theorem m_bothO (h : oQ A o) {n n' : Nat} (hn : n < 6) (hn' : n' < 6) {v w : Int} (gv : g32 v) (gw : g32 w) : f_Mo_both A o n v n' w = some (xwB (oC A o) n v n' w, A) := by
  have hlen : (oC A o).length = (A 1 o 2).toNat := oC_len
  have h1 := h.1
  have go : ∀ (F j : Nat), j ≤ (oC A o).length → (oC A o).length - j < F → f_Mo_both_6 F A o n v n' w (xwB ((oC A o).take j) n v n' w) j = some (xwB (oC A o) n v n' w, A) := by
    intro F
    induction F with
    | zero => intro j _ h; omega
    | succ F ih =>
      intro j h1 h2
      unfold f_Mo_both_6
      rw [if_pos (show g32 (j : Int) by unfold g32; omega), if_pos (show g32 (A 1 o 2) by unfold g32; omega)]
      by_cases z : (oC A o).length ≤ j
      · rw [if_pos (show A 1 o 2 ≤ (j : Int) by omega), List.take_of_length_le z]
      · have hj : j < (oC A o).length := by omega
        obtain ⟨e1, e2, e3⟩ := m_valAt h hj hn
        obtain ⟨d1, d2, d3⟩ := m_valAt h hj hn'
        rw [if_neg (show ¬ A 1 o 2 ≤ (j : Int) by omega), if_pos (show 0 ≤ (j : Int) ∧ (j : Int) < ((301 : Nat) : Int) by omega)]
        simp only [Int.toNat_natCast]
        rw [e1, obind]
        dsimp only
        rw [if_pos (show g32 (dd ((oC A o)[j]).1 n) by unfold g32; omega), if_pos gv, show ((j : Int) + 1) = ((j + 1 : Nat) : Int) by omega]
        have es : xwB ((oC A o).take (j + 1)) n v n' w = xwB ((oC A o).take j) n v n' w + (if dd ((oC A o)[j]).1 n = v ∧ dd ((oC A o)[j]).1 n' = w then ((oC A o)[j]).2 else 0) := by rw [take_s hj, xwB_app]
        by_cases q : dd ((oC A o)[j]).1 n = v
        · rw [if_pos q, d1, obind]
          dsimp only
          rw [if_pos (show g32 (dd ((oC A o)[j]).1 n') by unfold g32; omega), if_pos gw]
          by_cases q2 : dd ((oC A o)[j]).1 n' = w
          · rw [if_pos ⟨q, q2⟩] at es
            rw [if_pos q2, ← (oC_at hj).2, ← es]
            exact ih (j + 1) hj (by omega)
          · rw [if_neg (fun z => q2 z.2), Int.add_zero] at es
            rw [if_neg q2, ← es]
            exact ih (j + 1) hj (by omega)
        · rw [if_neg (fun z => q z.1), Int.add_zero] at es
          rw [if_neg q, ← es]
          exact ih (j + 1) hj (by omega)
  exact go 310 0 (Nat.zero_le _) (by omega)
/-- the odds of one state -/
theorem m_stateO {p s : Int} (h : oQ A o) (gs : g32 s) : ∀ (F j : Nat) (acc : Int), j ≤ (oC A o).length → (oC A o).length - j < F → acc + smx ((oC A o).drop j) s = smx (oC A o) s → (acc ≠ 0 → ∀ q ∈ (oC A o).drop j, q.1 ≠ s) → f_Mo_state_59 F A s p o acc j = Option.bind (f_Odds_all A o) (fun q4 => Option.bind (f_Mo_lowest q4.2 (smx (oC A o) s) q4.1 p) (fun q6 => some (q6.1, q6.2))) := by
  have hlen : (oC A o).length = (A 1 o 2).toNat := oC_len
  have h1a := h.1
  have hnd : (kys (oC A o)).Nodup := h.2.2.nd
  intro F
  induction F with
  | zero => intro j _ _ h; omega
  | succ F ih =>
    intro j acc h1 h2 h3 h4
    unfold f_Mo_state_59
    rw [if_pos (show g32 (j : Int) by unfold g32; omega), if_pos (show g32 (A 1 o 2) by unfold g32; omega)]
    by_cases z : (oC A o).length ≤ j
    · rw [if_pos (show A 1 o 2 ≤ (j : Int) by omega)]
      rw [List.drop_of_length_le z] at h3
      have : acc = smx (oC A o) s := by simpa [smx] using h3
      rw [this]
    · have hj : j < (oC A o).length := by omega
      obtain ⟨e1, e2⟩ := oC_at hj
      have hst := h.2.1 _ (List.getElem_mem hj)
      rw [drop_s hj] at h3 h4
      have hsm : smx ((oC A o)[j] :: (oC A o).drop (j + 1)) s = (if ((oC A o)[j]).1 = s then ((oC A o)[j]).2 else 0) + smx ((oC A o).drop (j + 1)) s := rfl
      rw [hsm] at h3
      rw [if_neg (show ¬ A 1 o 2 ≤ (j : Int) by omega), if_pos (show 0 ≤ (j : Int) ∧ (j : Int) < ((301 : Nat) : Int) by omega)]
      simp only [Int.toNat_natCast]
      rw [← e1, ← e2, if_pos (show g32 ((oC A o)[j]).1 by unfold g32; omega), if_pos gs, show ((j : Int) + 1) = ((j + 1 : Nat) : Int) by omega]
      have hnd2 : (kys ((oC A o)[j] :: (oC A o).drop (j + 1))).Nodup := by
        rw [← drop_s hj]
        exact (List.Sublist.map _ (List.drop_sublist j _)).nodup hnd
      by_cases q : ((oC A o)[j]).1 = s
      · rw [if_pos q] at h3 ⊢
        have hz : acc = 0 := by
          by_cases y : acc = 0
          · exact y
          · exact absurd q (h4 y _ List.mem_cons_self)
        refine ih (j + 1) _ hj (by omega) (by omega) (fun _ r hr => ?_)
        rw [← q]
        intro e
        exact (List.nodup_cons.mp hnd2).1 (List.mem_map.mpr ⟨r, hr, e⟩)
      · rw [if_neg q] at h3 ⊢
        exact ih (j + 1) acc hj (by omega) (by omega) (fun y r hr => h4 y r (List.mem_cons_of_mem _ hr))
/-- the likeliest state -/
theorem m_likelO (h : oQ A o) (h0 : 0 < (oC A o).length) (hw : ∀ q ∈ oC A o, 0 < q.2 ∧ g64 q.2) : ∃ t, f_Mo_likeliest_69 310 A 6 o (-1) 0 (A 1 o 2) 0 = some (t, A) ∧ isBest (oC A o) t := by
  have hlen : (oC A o).length = (A 1 o 2).toNat := oC_len
  have h1a := h.1
  have hs := h.2.2
  have go : ∀ (F j : Nat) (t m : Int), j ≤ (oC A o).length → (oC A o).length - j < F → g64 m → ((j = 0 ∧ m = 0) ∨ (t, m) ∈ (oC A o).take j) → (∀ q ∈ (oC A o).take j, q.2 < m ∨ (q.2 = m ∧ t ≤ q.1)) → ∃ t', f_Mo_likeliest_69 F A 6 o t m (A 1 o 2) j = some (t', A) ∧ isBest (oC A o) t' := by
    intro F
    induction F with
    | zero => intro j _ _ _ h; omega
    | succ F ih =>
      intro j t m h1 h2 gm hm hb
      unfold f_Mo_likeliest_69
      rw [if_pos (show g32 (j : Int) by unfold g32; omega), if_pos (show g32 (A 1 o 2) by unfold g32; omega)]
      by_cases z : (oC A o).length ≤ j
      · rw [if_pos (show A 1 o 2 ≤ (j : Int) by omega)]
        rw [List.take_of_length_le z] at hm hb
        rcases hm with hm | hm
        · omega
        · exact ⟨t, rfl, m, hm, hb⟩
      · have hj : j < (oC A o).length := by omega
        obtain ⟨e1, e2⟩ := oC_at hj
        obtain ⟨w1, w2⟩ := hw _ (List.getElem_mem hj)
        rw [if_neg (show ¬ A 1 o 2 ≤ (j : Int) by omega), if_pos (show g32 6 by decide), if_pos rfl, if_pos (show 0 ≤ (j : Int) ∧ (j : Int) < ((301 : Nat) : Int) by omega)]
        simp only [Int.toNat_natCast]
        rw [← e1, ← e2, if_pos w2, if_pos gm, show ((j : Int) + 1) = ((j + 1 : Nat) : Int) by omega]
        have lt9 : ∀ q ∈ (oC A o).take j, q.1 < ((oC A o)[j]).1 := fun q hq => by
          obtain ⟨i, hi, rfl⟩ := List.getElem_of_mem hq
          have hi2 : i < j := by have := List.length_take_le j (oC A o); omega
          rw [List.getElem_take]
          have := List.pairwise_iff_getElem.mp hs i j (by simpa using Nat.lt_trans hi2 hj) (by simpa using hj) hi2
          simpa using this
        by_cases c : m < ((oC A o)[j]).2
        · have el : 0 < lc ((oC A o)[j]).2 m := by
            unfold lc
            rw [if_neg (by omega), if_neg (by omega)]
            decide
          rw [if_pos el]
          refine ih (j + 1) _ _ hj (by omega) w2 (Or.inr (by rw [take_s hj]; exact List.mem_append.mpr (Or.inr List.mem_cons_self))) (fun q hq => ?_)
          rw [take_s hj] at hq
          rcases List.mem_append.mp hq with x | x
          · rcases hb q x with y | y
            · exact Or.inl (by omega)
            · exact Or.inl (by omega)
          · have x : q = (oC A o)[j] := by simpa using x
            rw [x]
            exact Or.inr ⟨rfl, Int.le_refl _⟩
        · have el : ¬ 0 < lc ((oC A o)[j]).2 m := by
            unfold lc
            by_cases y : ((oC A o)[j]).2 < m
            · rw [if_pos y]; decide
            · rw [if_neg y, if_pos (by omega)]; decide
          rw [if_neg el]
          have hm' : (t, m) ∈ (oC A o).take j := by
            rcases hm with ⟨-, y⟩ | y
            · omega
            · exact y
          refine ih (j + 1) t m hj (by omega) gm (Or.inr (by rw [take_s hj]; exact List.mem_append.mpr (Or.inl hm'))) (fun q hq => ?_)
          rw [take_s hj] at hq
          rcases List.mem_append.mp hq with x | x
          · exact hb q x
          · have x : q = (oC A o)[j] := by simpa using x
            rw [x]
            have := lt9 _ hm'
            simp only [] at this
            omega
  exact go 310 0 (-1) 0 (Nat.zero_le _) (by omega) (by decide) (Or.inl ⟨rfl, rfl⟩) (fun q hq => by rw [List.take_zero] at hq; cases hq)
end ORD
/-- the smallest value with most weight -/
def isBestV (f : Nat → Int) (v : Nat) : Prop := v < 10 ∧ ∀ u : Nat, u < 10 → f u < f v ∨ (f u = f v ∧ v ≤ u)
theorem isBestV.uniq {f : Nat → Int} {v v' : Nat} (h : isBestV f v) (h' : isBestV f v') : v = v' := by
  have a := h.2 v' h'.1
  have b := h'.2 v h.1
  omega
theorem m_likelV {A : mA} {o n : Nat} (h : oQ A o) (hn : n < 6) (hw : ∀ v : Nat, v < 10 → 0 ≤ xwN (oC A o) n ((v : Nat) : Int) ∧ g64 (xwN (oC A o) n ((v : Nat) : Int))) (hp : ∃ v : Nat, v < 10 ∧ 0 < xwN (oC A o) n ((v : Nat) : Int)) : ∃ v : Nat, f_Mo_likeliest_69 310 A n o (-1) 0 10 0 = some ((v : Int), A) ∧ isBestV (fun v => xwN (oC A o) n ((v : Nat) : Int)) v := by
  have go : ∀ (F j : Nat) (t m : Int), j ≤ 10 → 10 - j < F → g64 m → ((m = 0 ∧ ∀ u : Nat, u < j → xwN (oC A o) n ((u : Nat) : Int) = 0) ∨ ∃ v : Nat, v < j ∧ t = v ∧ m = xwN (oC A o) n ((v : Nat) : Int) ∧ 0 < m ∧ ∀ u : Nat, u < j → xwN (oC A o) n ((u : Nat) : Int) < m ∨ (xwN (oC A o) n ((u : Nat) : Int) = m ∧ v ≤ u)) → ∃ v : Nat, f_Mo_likeliest_69 F A n o t m 10 j = some ((v : Int), A) ∧ isBestV (fun v => xwN (oC A o) n ((v : Nat) : Int)) v := by
    intro F
    induction F with
    | zero => intro j _ _ _ h; omega
    | succ F ih =>
      intro j t m h1 h2 gm hm
      unfold f_Mo_likeliest_69
      rw [if_pos (show g32 (j : Int) by unfold g32; omega), if_pos (show g32 10 by decide)]
      by_cases z : 10 ≤ j
      · rw [if_pos (show (10 : Int) ≤ (j : Int) by omega)]
        rcases hm with ⟨-, hm⟩ | ⟨v, v1, v2, v3, v4, v5⟩
        · obtain ⟨u, u1, u2⟩ := hp
          have := hm u (by omega)
          omega
        · refine ⟨v, by rw [v2], by omega, fun u hu => ?_⟩
          have h5 := v5 u (by omega)
          rw [v3] at h5
          exact h5
      · have hj : j < 10 := by omega
        obtain ⟨w1, w2⟩ := hw j hj
        rw [if_neg (show ¬ (10 : Int) ≤ (j : Int) by omega), if_pos (show g32 (n : Int) by unfold g32; omega), if_neg (show ¬ (n : Int) = 6 by omega), m_wOf h hn (show g32 (j : Int) by unfold g32; omega), obind]
        dsimp only
        rw [if_pos w2, if_pos gm, show ((j : Int) + 1) = ((j + 1 : Nat) : Int) by omega]
        by_cases c : m < xwN (oC A o) n ((j : Nat) : Int)
        · have el : 0 < lc (xwN (oC A o) n ((j : Nat) : Int)) m := by
            unfold lc
            rw [if_neg (by omega), if_neg (by omega)]
            decide
          rw [if_pos el]
          refine ih (j + 1) _ _ hj (by omega) w2 (Or.inr ⟨j, by omega, rfl, rfl, ?_, fun u hu => ?_⟩)
          · rcases hm with ⟨y, -⟩ | ⟨v, v1, v2, v3, v4, v5⟩ <;> omega
          · by_cases e : u = j
            · subst e; exact Or.inr ⟨rfl, Nat.le_refl _⟩
            · rcases hm with ⟨y, y2⟩ | ⟨v, v1, v2, v3, v4, v5⟩
              · have := y2 u (by omega)
                exact Or.inl (by omega)
              · have := v5 u (by omega)
                exact Or.inl (by omega)
        · have el : ¬ 0 < lc (xwN (oC A o) n ((j : Nat) : Int)) m := by
            unfold lc
            by_cases y : xwN (oC A o) n ((j : Nat) : Int) < m
            · rw [if_pos y]; decide
            · rw [if_neg y, if_pos (by omega)]; decide
          rw [if_neg el]
          refine ih (j + 1) t m hj (by omega) gm ?_
          rcases hm with ⟨y, y2⟩ | ⟨v, v1, v2, v3, v4, v5⟩
          · refine Or.inl ⟨y, fun u hu => ?_⟩
            by_cases e : u = j
            · subst e; omega
            · exact y2 u (by omega)
          · refine Or.inr ⟨v, by omega, v2, v3, v4, fun u hu => ?_⟩
            by_cases e : u = j
            · subst e; omega
            · exact v5 u (by omega)
  exact go 310 0 (-1) 0 (by omega) (by omega) (by decide) (Or.inl ⟨rfl, fun u hu => absurd hu (Nat.not_lt_zero u)⟩)
/-! ratios -/
def smR (a b c d : Nat) : Int := if lowN a b 0 = lowN c d 0 ∧ lowN a b 1 = lowN c d 1 then 1 else 0
theorem lowN_le {a b : Nat} {p : Int} (ha : a < 2 ^ 62) (hb : b < 2 ^ 62) : g64 (lowN a b p : Int) := by
  have : lowN a b p ≤ max a b := by
    unfold lowN
    split
    · exact Nat.le_trans (Nat.div_le_self _ _) (Nat.le_max_left _ _)
    · exact Nat.le_trans (Nat.div_le_self _ _) (Nat.le_max_right _ _)
  unfold g64
  omega
theorem lc_eq {a b : Nat} : lc (a : Int) (b : Int) = 0 ↔ a = b := by
  unfold lc
  by_cases k : (a : Int) < b
  · rw [if_pos k]
    constructor
    · intro q; cases q
    · intro q; omega
  · rw [if_neg k]
    by_cases k2 : (a : Int) = b
    · rw [if_pos k2]
      constructor
      · intro _; omega
      · intro _; rfl
    · rw [if_neg k2]
      constructor
      · intro q; cases q
      · intro q; omega
theorem c_same {C : mA} {a b c d : Nat} (ha : a < 2 ^ 62) (hb : b < 2 ^ 62) (hc : c < 2 ^ 62) (hd : d < 2 ^ 62) (b0 : 0 < b) (d0 : 0 < d) : f_CS_isSameRatio C a b c d = some (smR a b c d, C) := by
  have p := fun (x y : Nat) (p : Int) (gp : g32 p) hx hy h0 => (part_both (C := C) (A := C) (a := x) (b := y) (p := p) gp hx hy h0).1
  unfold f_CS_isSameRatio smR
  rw [p a b 0 (by decide) ha hb b0, obind]
  dsimp only
  rw [p c d 0 (by decide) hc hd d0, obind]
  dsimp only
  rw [if_pos (lowN_le ha hb), if_pos (lowN_le hc hd)]
  by_cases k : lowN a b 0 = lowN c d 0
  · rw [if_pos (lc_eq.mpr k), p a b 1 (by decide) ha hb b0, obind]
    dsimp only
    rw [p c d 1 (by decide) hc hd d0, obind]
    dsimp only
    rw [if_pos (lowN_le ha hb), if_pos (lowN_le hc hd)]
    by_cases k2 : lowN a b 1 = lowN c d 1
    · rw [if_pos (lc_eq.mpr k2), if_pos ⟨k, k2⟩]
    · rw [if_neg (fun q => k2 (lc_eq.mp q)), if_neg (fun q => k2 q.2)]
  · rw [if_neg (fun q => k (lc_eq.mp q)), if_neg (fun q => k q.1)]
theorem m_same {A : mA} {a b c d : Nat} (ha : a < 2 ^ 62) (hb : b < 2 ^ 62) (hc : c < 2 ^ 62) (hd : d < 2 ^ 62) (b0 : 0 < b) (d0 : 0 < d) : f_Mo_areSame A a b c d = some (smR a b c d, A) := by
  have p := fun (x y : Nat) (p : Int) (gp : g32 p) hx hy h0 => (part_both (C := A) (A := A) (a := x) (b := y) (p := p) gp hx hy h0).2
  unfold f_Mo_areSame smR
  rw [p a b 0 (by decide) ha hb b0, obind]
  dsimp only
  rw [p c d 0 (by decide) hc hd d0, obind]
  dsimp only
  rw [if_pos (lowN_le ha hb), if_pos (lowN_le hc hd)]
  by_cases k : lowN a b 0 = lowN c d 0
  · rw [if_pos (lc_eq.mpr k), p a b 1 (by decide) ha hb b0, obind]
    dsimp only
    rw [p c d 1 (by decide) hc hd d0, obind]
    dsimp only
    rw [if_pos (lowN_le ha hb), if_pos (lowN_le hc hd)]
    by_cases k2 : lowN a b 1 = lowN c d 1
    · rw [if_pos (lc_eq.mpr k2), if_pos ⟨k, k2⟩]
    · rw [if_neg (fun q => k2 (lc_eq.mp q)), if_neg (fun q => k2 q.2)]
  · rw [if_neg (fun q => k (lc_eq.mp q)), if_neg (fun q => k q.1)]
