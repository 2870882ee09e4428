/-! crowds of the class read: weights, the likeliest, by one name where another is so (own work) -/
section CRD
variable {C : mA} {cr : Nat} {l : List xE}
theorem tot_take {l : List xE} {j : Nat} (h : j < l.length) : tot (l.take (j + 1)) = tot (l.take j) + (l[j]).2 := by
  rw [take_s h, tot_app]
  simp [tot]
theorem c_weight (h : CWs C cr l) : f_Crowd_weight C cr = some (tot l, C) := by
  have hl := h.len
  have go : ∀ (F j : Nat), j ≤ l.length → l.length - j < F → f_Crowd_weight_4 F C cr (tot (l.take j)) j = some (tot l, C) := by
    intro F
    induction F with
    | zero => intro j _ h; omega
    | succ F ih =>
      intro j h1 h2
      unfold f_Crowd_weight_4
      rw [h.2.2.1, if_pos (show g32 (j : Int) by unfold g32; omega), if_pos (show g32 ((l.length : Nat) : Int) by unfold g32; omega)]
      by_cases z : l.length ≤ j
      · rw [if_pos (show ((l.length : Nat) : Int) ≤ j by omega), List.take_of_length_le z]
      · have hj : j < l.length := by omega
        obtain ⟨a1, -⟩ := CW.at h hj
        have e2 : C 32 (C 0 cr 1).toNat j = (l[j]).2 := by rw [a1]
        rw [if_neg (show ¬ ((l.length : Nat) : Int) ≤ j by omega), if_neg (show ¬ (300 : Int) ≤ j by omega), if_pos (show 0 ≤ (j : Int) ∧ (j : Int) < ((300 : Nat) : Int) by omega), Int.toNat_natCast, e2, ← tot_take hj, show ((j : Int) + 1) = ((j + 1 : Nat) : Int) by omega]
        exact ih (j + 1) hj (by omega)
  exact go 400 0 (Nat.zero_le _) (by omega)
theorem smx_at : ∀ {l : List xE} {j : Nat} (h : j < l.length), (kys l).Nodup → smx l (l[j]).1 = (l[j]).2
  | [], j, h, _ => absurd h (Nat.not_lt_zero _)
  | y :: l, 0, _, hn => by
    show (if y.1 = y.1 then y.2 else 0) + smx l y.1 = y.2
    rw [if_pos rfl, sm_out (List.nodup_cons.mp hn).1]
    omega
  | y :: l, j + 1, h, hn => by
    have hj : j < l.length := Nat.lt_of_succ_lt_succ h
    have hne : ¬ y.1 = (l[j]).1 := fun e => (List.nodup_cons.mp hn).1 (List.mem_map.mpr ⟨l[j], List.getElem_mem hj, e.symm⟩)
    show (if y.1 = (l[j]).1 then y.2 else 0) + smx l (l[j]).1 = (l[j]).2
    rw [if_neg hne, smx_at hj (List.nodup_cons.mp hn).2]
    omega
theorem c_weightOf {s : Int} (h : CWs C cr l) (hn : (kys l).Nodup) (hs : vs9 s) : f_Crowd_weightOf C cr s = some (smx l (ud s), C) := by
  have hl := h.len
  have go : ∀ (F j : Nat), j ≤ l.length → l.length - j < F → (∀ i (hi : i < l.length), i < j → (l[i]).1 ≠ ud s) → f_Crowd_weightOf_2 F C cr s j = some (smx l (ud s), C) := by
    intro F
    induction F with
    | zero => intro j _ h; omega
    | succ F ih =>
      intro j h1 h2 h3
      unfold f_Crowd_weightOf_2
      rw [h.2.2.1, if_pos (show g32 (j : Int) by unfold g32; omega), if_pos (show g32 ((l.length : Nat) : Int) by unfold g32; omega)]
      by_cases z : l.length ≤ j
      · rw [if_pos (show ((l.length : Nat) : Int) ≤ j by omega)]
        have : smx l (ud s) = 0 := sm_out (fun q => by
          obtain ⟨y, hy, e⟩ := List.mem_map.mp q
          obtain ⟨i, hi, rfl⟩ := List.getElem_of_mem hy
          exact h3 i hi (by omega) e)
        rw [this]
      · have hj : j < l.length := by omega
        obtain ⟨a1, a2⟩ := CW.at h hj
        have e1 : ud (C 31 (C 0 cr 0).toNat j) = (l[j]).1 := by rw [a1]
        have e2 : C 32 (C 0 cr 1).toNat j = (l[j]).2 := by rw [a1]
        rw [if_neg (show ¬ ((l.length : Nat) : Int) ≤ j by omega), if_neg (show ¬ (300 : Int) ≤ j by omega), if_pos (show 0 ≤ (j : Int) ∧ (j : Int) < ((300 : Nat) : Int) by omega), Int.toNat_natCast, if_pos a2.g, if_pos hs.g, e2]
        by_cases q : C 31 (C 0 cr 0).toNat j = s
        · rw [if_pos q]
          rw [q] at e1
          rw [e1, smx_at hj hn]
        · rw [if_neg q, show ((j : Int) + 1) = ((j + 1 : Nat) : Int) by omega]
          refine ih (j + 1) hj (by omega) (fun i hi hij => ?_)
          by_cases e : i = j
          · subst e
            rw [← e1]
            exact fun r => q (ud_inj a2 hs r)
          · exact h3 i hi (by omega)
  exact go 400 0 (Nat.zero_le _) (by omega) (fun i _ hi => absurd hi (Nat.not_lt_zero i))
/-- the one with most weight; of those with as much the smallest -/
def isBest (l : List xE) (t : Int) : Prop := ∃ w, (t, w) ∈ l ∧ ∀ q ∈ l, q.2 < w ∨ (q.2 = w ∧ t ≤ q.1)
theorem isBest.uniq {l l' : List xE} {t t' : Int} (h : isBest l t) (h' : isBest l' t') (hp : l.Perm l') : t = t' := by
  obtain ⟨w, m, a⟩ := h
  obtain ⟨w', m', a'⟩ := h'
  have x := a _ (hp.mem_iff.mpr m')
  have y := a' _ (hp.mem_iff.mp m)
  simp only [] at x y
  omega
theorem vs9_lt {s s' : Int} (h : vs9 s) (h' : vs9 s') : ud s ≤ ud s' ↔ s ≤ s' := by
  have e : ∀ {s : Int}, vs9 s → s = 1048576 * nb9 s 0 + 65536 * nb9 s 1 + 4096 * nb9 s 2 + 256 * nb9 s 3 + 16 * nb9 s 4 + nb9 s 5 := fun {s} h => by
    have := h.1
    show s = 1048576 * (s / 1048576 % 16) + 65536 * (s / 65536 % 16) + 4096 * (s / 4096 % 16) + 256 * (s / 256 % 16) + 16 * (s / 16 % 16) + s % 16
    omega
  have r : ∀ {s : Int}, vs9 s → ∀ j, j < 6 → 0 ≤ nb9 s j ∧ nb9 s j ≤ 9 := fun h j hj => (h.2 j hj).2
  have r0 := r h 0 (by decide); have r1 := r h 1 (by decide); have r2 := r h 2 (by decide); have r3 := r h 3 (by decide); have r4 := r h 4 (by decide); have r5 := r h 5 (by decide)
  have s0 := r h' 0 (by decide); have s1 := r h' 1 (by decide); have s2 := r h' 2 (by decide); have s3 := r h' 3 (by decide); have s4 := r h' 4 (by decide); have s5 := r h' 5 (by decide)
  have e1 := e h
  have e2 := e h'
  have u1 : ud s = 100000 * nb9 s 0 + 10000 * nb9 s 1 + 1000 * nb9 s 2 + 100 * nb9 s 3 + 10 * nb9 s 4 + nb9 s 5 := rfl
  have u2 : ud s' = 100000 * nb9 s' 0 + 10000 * nb9 s' 1 + 1000 * nb9 s' 2 + 100 * nb9 s' 3 + 10 * nb9 s' 4 + nb9 s' 5 := rfl
  rw [u1, u2]
  constructor <;> intro q <;> omega
theorem c_likeliest (h : CWs C cr l) (h0 : 0 < l.length) (hw : ∀ q ∈ l, g64 q.2) : ∃ s, f_Crowd_likeliestState C cr = some (s, C) ∧ vs9 s ∧ isBest l (ud s) := by
  have hl := h.len
  have at9 : ∀ j (hj : j < l.length), ud (C 31 (C 0 cr 0).toNat j) = (l[j]).1 ∧ C 32 (C 0 cr 1).toNat j = (l[j]).2 ∧ vs9 (C 31 (C 0 cr 0).toNat j) := fun j hj => by
    obtain ⟨a1, a2⟩ := CW.at h hj
    exact ⟨by rw [a1], by rw [a1], a2⟩
  have go : ∀ (F i j : Nat), i < l.length → j ≤ l.length → l.length - j < F → (∀ k (hk : k < l.length), k < j → (l[k]).2 < C 32 (C 0 cr 1).toNat i ∨ ((l[k]).2 = C 32 (C 0 cr 1).toNat i ∧ ud (C 31 (C 0 cr 0).toNat i) ≤ (l[k]).1)) → ∃ s, f_Crowd_likeliestState_4 F C cr i j = some (s, C) ∧ vs9 s ∧ isBest l (ud s) := by
    intro F
    induction F with
    | zero => intro i j _ _ h; omega
    | succ F ih =>
      intro i j hi h1 h2 h3
      obtain ⟨b1, b2, b3⟩ := at9 i hi
      unfold f_Crowd_likeliestState_4
      rw [h.2.2.1, if_pos (show g32 (j : Int) by unfold g32; omega), if_pos (show g32 ((l.length : Nat) : Int) by unfold g32; omega)]
      have pi : 0 ≤ (i : Int) ∧ (i : Int) < ((300 : Nat) : Int) := by omega
      by_cases z : l.length ≤ j
      · rw [if_pos (show ((l.length : Nat) : Int) ≤ j by omega), if_pos pi, Int.toNat_natCast]
        refine ⟨_, rfl, b3, C 32 (C 0 cr 1).toNat i, ?_, fun q hq => ?_⟩
        · rw [b1, b2]
          exact List.getElem_mem hi
        · obtain ⟨k, hk, rfl⟩ := List.getElem_of_mem hq
          exact h3 k hk (by omega)
      · have hj : j < l.length := by omega
        obtain ⟨a1, a2, a3⟩ := at9 j hj
        have w1 := hw _ (List.getElem_mem hj)
        have w2 := hw _ (List.getElem_mem hi)
        have ej : ((j : Int) + 1) = ((j + 1 : Nat) : Int) := by omega
        rw [if_neg (show ¬ ((l.length : Nat) : Int) ≤ j by omega), if_neg (show ¬ (300 : Int) ≤ j by omega), if_pos (show 0 ≤ (j : Int) ∧ (j : Int) < ((300 : Nat) : Int) by omega), if_pos pi]
        simp only [Int.toNat_natCast]
        rw [ej, if_pos (show g64 (C 32 (C 0 cr 1).toNat j) by rw [a2]; exact w1), if_pos (show g64 (C 32 (C 0 cr 1).toNat i) by rw [b2]; exact w2)]
        have keep : (C 32 (C 0 cr 1).toNat j < C 32 (C 0 cr 1).toNat i ∨ (C 32 (C 0 cr 1).toNat j = C 32 (C 0 cr 1).toNat i ∧ C 31 (C 0 cr 0).toNat i ≤ C 31 (C 0 cr 0).toNat j)) → ∃ s, f_Crowd_likeliestState_4 F C cr i ((j + 1 : Nat) : Int) = some (s, C) ∧ vs9 s ∧ isBest l (ud s) := fun hk => by
          refine ih i (j + 1) hi hj (by omega) (fun k hk' hkj => ?_)
          by_cases e : k = j
          · subst e
            rw [← a1, ← a2]
            rcases hk with x | ⟨x, y⟩
            · exact Or.inl x
            · exact Or.inr ⟨x, (vs9_lt b3 a3).mpr y⟩
          · exact h3 k hk' (by omega)
        have swap : (C 32 (C 0 cr 1).toNat i < C 32 (C 0 cr 1).toNat j ∨ (C 32 (C 0 cr 1).toNat i = C 32 (C 0 cr 1).toNat j ∧ C 31 (C 0 cr 0).toNat j < C 31 (C 0 cr 0).toNat i)) → ∃ s, f_Crowd_likeliestState_4 F C cr j ((j + 1 : Nat) : Int) = some (s, C) ∧ vs9 s ∧ isBest l (ud s) := fun hk => by
          refine ih j (j + 1) hj hj (by omega) (fun k hk' hkj => ?_)
          by_cases e : k = j
          · subst e
            rw [← a1, ← a2]
            exact Or.inr ⟨rfl, Int.le_refl _⟩
          · have x := h3 k hk' (by omega)
            rcases hk with y | ⟨y, y2⟩
            · exact Or.inl (by omega)
            · have y3 := (vs9_lt a3 b3).mpr (Int.le_of_lt y2)
              rw [← y]
              omega
        by_cases c0 : C 32 (C 0 cr 1).toNat j < C 32 (C 0 cr 1).toNat i
        · have e1 : lc (C 32 (C 0 cr 1).toNat j) (C 32 (C 0 cr 1).toNat i) = -1 := by unfold lc; rw [if_pos c0]
          rw [if_neg (show ¬ lc (C 32 (C 0 cr 1).toNat j) (C 32 (C 0 cr 1).toNat i) = 0 by rw [e1]; decide), if_neg (show ¬ 0 < lc (C 32 (C 0 cr 1).toNat j) (C 32 (C 0 cr 1).toNat i) by rw [e1]; decide)]
          exact keep (Or.inl c0)
        · by_cases c1 : C 32 (C 0 cr 1).toNat j = C 32 (C 0 cr 1).toNat i
          · have e1 : lc (C 32 (C 0 cr 1).toNat j) (C 32 (C 0 cr 1).toNat i) = 0 := by unfold lc; rw [if_neg c0, if_pos c1]
            rw [if_pos e1, if_pos a3.g, if_pos b3.g]
            by_cases c2 : C 31 (C 0 cr 0).toNat i ≤ C 31 (C 0 cr 0).toNat j
            · rw [if_pos c2]
              exact keep (Or.inr ⟨c1, c2⟩)
            · rw [if_neg c2]
              exact swap (Or.inr ⟨c1.symm, by omega⟩)
          · have e1 : lc (C 32 (C 0 cr 1).toNat j) (C 32 (C 0 cr 1).toNat i) = 1 := by unfold lc; rw [if_neg c0, if_neg c1]
            rw [if_neg (show ¬ lc (C 32 (C 0 cr 1).toNat j) (C 32 (C 0 cr 1).toNat i) = 0 by rw [e1]; decide), if_pos (show 0 < lc (C 32 (C 0 cr 1).toNat j) (C 32 (C 0 cr 1).toNat i) by rw [e1]; decide)]
            exact swap (Or.inl (by omega))
  exact go 400 0 1 h0 (by omega) (by omega) (fun k hk hk1 => by
    obtain rfl : k = 0 := by omega
    obtain ⟨a1, a2, a3⟩ := at9 0 h0
    exact Or.inr ⟨a2.symm, by rw [a1]; exact Int.le_refl _⟩)
end CRD
/-- the weight of those whose a name has this value and another that -/
def xwB (l : List xE) (n : Nat) (v : Int) (n' : Nat) (w : Int) : Int := tot (l.filter (fun q => dd q.1 n == v && dd q.1 n' == w))
theorem xwB_app {l : List xE} {q : xE} {n n' : Nat} {v w : Int} : xwB (l ++ [q]) n v n' w = xwB l n v n' w + (if dd q.1 n = v ∧ dd q.1 n' = w then q.2 else 0) := by
  unfold xwB
  rw [List.filter_append, tot_app]
  congr 1
  by_cases k : dd q.1 n = v ∧ dd q.1 n' = w
  · rw [if_pos k, List.filter_cons_of_pos (by simp [k.1, k.2])]
    simp [tot]
  · rw [if_neg k, List.filter_cons_of_neg (by simpa using k)]
    rfl
section CSW
variable {C0 : mA} {cr row : Nat} {nm nm' : Nat} {l : List xE}
theorem c_where2 {v0 : Int} (h : CWs C0 cr l) (hn : nm < 6) (hn' : nm' < 6) (gv : g32 v0) : ∀ (F j : Nat) (C : mA), j ≤ l.length → l.length - j < F → (∀ f a i, ¬ (f = 23 ∧ a = row) → C f a i = C0 f a i) → (∀ v : Nat, v < 10 → C 23 row v = xwB (l.take j) nm v0 nm' v) → ∃ C', f_Crowd_spreadWhere_29 F C cr nm v0 nm' row (xwN (l.take j) nm v0) j = some (xwN l nm v0, C') ∧ (∀ f a i, ¬ (f = 23 ∧ a = row) → C' f a i = C0 f a i) ∧ ∀ v : Nat, v < 10 → C' 23 row v = xwB l nm v0 nm' v := by
  have hl := h.len
  intro F
  induction F with
  | zero => intro j C _ h; omega
  | succ F ih =>
    intro j C h1 h2 hf hv
    unfold f_Crowd_spreadWhere_29
    rw [hf 0 cr 2 (by omega), h.2.2.1, if_pos (show g32 (j : Int) by unfold g32; omega), if_pos (show g32 ((l.length : Nat) : Int) by unfold g32; omega)]
    by_cases z : l.length ≤ j
    · rw [if_pos (show ((l.length : Nat) : Int) ≤ j by omega)]
      rw [List.take_of_length_le z] at hv ⊢
      exact ⟨C, rfl, hf, hv⟩
    have hj : j < l.length := by omega
    obtain ⟨a1, a2⟩ := CW.at h hj
    have e3 : ((j : Int) + 1) = ((j + 1 : Nat) : Int) := by omega
    have dg : ∀ k : Nat, k < 6 → f_CS_digitAt C (C0 31 (C0 0 cr 0).toNat j) (k : Int) = some (dd (l[j]).1 k, C) := fun k hk => by
      rw [c_digit (n := (k : Int)) a2.1 (by omega), a1]
      show some (nb9 (C0 31 (C0 0 cr 0).toNat j) k, C) = some (dd (ud (C0 31 (C0 0 cr 0).toNat j)) k, C)
      rw [(a2.tn.2 k hk).1]
    have r : ∀ k : Nat, k < 6 → 0 ≤ dd (l[j]).1 k ∧ dd (l[j]).1 k ≤ 9 := fun k _ => dd_r _ k
    have e2 : C0 32 (C0 0 cr 1).toNat j = (l[j]).2 := by rw [a1]
    rw [if_neg (show ¬ ((l.length : Nat) : Int) ≤ j by omega), if_neg (show ¬ (300 : Int) ≤ j by omega), if_pos (show 0 ≤ (j : Int) ∧ (j : Int) < ((300 : Nat) : Int) by omega)]
    simp only [Int.toNat_natCast]
    rw [hf 0 cr 0 (by omega), hf 31 _ j (by omega), dg nm' hn', obind]
    dsimp only
    rw [hf 0 cr 0 (by omega), hf 31 _ j (by omega), dg nm hn, obind]
    dsimp only
    have r1 := r nm hn
    have r2 := r nm' hn'
    rw [if_pos (show g32 (dd (l[j]).1 nm) by unfold g32; omega), if_pos gv]
    by_cases q : dd (l[j]).1 nm = v0
    · rw [if_pos q, if_pos (show g32 (dd (l[j]).1 nm') by unfold g32; omega), if_pos (show g32 ((10 : Nat) : Int) by decide), if_neg (show ¬ ((10 : Nat) : Int) ≤ dd (l[j]).1 nm' by omega), if_pos (show 0 ≤ dd (l[j]).1 nm' ∧ dd (l[j]).1 nm' < ((10 : Nat) : Int) by omega), hf 0 cr 1 (by omega), hf 32 _ j (by omega), e2, e3]
      have es : xwN (l.take j) nm v0 + (l[j]).2 = xwN (l.take (j + 1)) nm v0 := by rw [take_s hj, xwN_app, if_pos q]
      rw [es]
      refine ih (j + 1) _ hj (by omega) (fun f a i y => by rw [mu_ne _ _ (by omega)]; exact hf f a i y) (fun v hv' => ?_)
      have hvv := hv v hv'
      rw [take_s hj, xwB_app]
      by_cases y : (v : Int) = dd (l[j]).1 nm'
      · have : (dd (l[j]).1 nm').toNat = v := by omega
        rw [this, mu_at, hvv, if_pos ⟨q, y.symm⟩]
      · rw [mu_ne _ _ (by omega), hvv, if_neg (fun e => y e.2.symm)]
        omega
    · rw [if_neg q, e3]
      have es : xwN (l.take j) nm v0 = xwN (l.take (j + 1)) nm v0 := by rw [take_s hj, xwN_app, if_neg q]; omega
      rw [es]
      refine ih (j + 1) C hj (by omega) hf (fun v hv' => ?_)
      rw [take_s hj, xwB_app, if_neg (fun e => q e.1), hv v hv']
      omega
theorem c_where {v0 : Int} (h : CWs C0 cr l) (hn : nm < 6) (hn' : nm' < 6) (gv : g32 v0) : ∃ C', f_Crowd_spreadWhere C0 cr nm v0 nm' row = some (xwN l nm v0, C') ∧ (∀ f a i, ¬ (f = 23 ∧ a = row) → C' f a i = C0 f a i) ∧ ∀ v : Nat, v < 10 → C' 23 row v = xwB l nm v0 nm' v := by
  have hl := h.len
  have go : ∀ (F j : Nat) (C : mA), j ≤ 10 → 10 - j < F → (∀ f a i, ¬ (f = 23 ∧ a = row) → C f a i = C0 f a i) → (∀ v : Nat, v < j → C 23 row v = 0) → ∃ C', f_Crowd_spreadWhere_6 F C cr nm v0 nm' row 0 j = some (xwN l nm v0, C') ∧ (∀ f a i, ¬ (f = 23 ∧ a = row) → C' f a i = C0 f a i) ∧ ∀ v : Nat, v < 10 → C' 23 row v = xwB l nm v0 nm' v := by
    intro F
    induction F with
    | zero => intro j C _ h; omega
    | succ F ih =>
      intro j C h1 h2 hf hv
      unfold f_Crowd_spreadWhere_6
      rw [if_pos (show g32 (j : Int) by unfold g32; omega), if_pos (show g32 ((10 : Nat) : Int) by decide)]
      by_cases z : ((10 : Nat) : Int) ≤ j
      · rw [if_pos z]
        exact c_where2 h hn hn' gv 400 0 C (Nat.zero_le _) (by omega) hf (fun v hv' => by rw [hv v (by omega), List.take_zero]; rfl)
      · rw [if_neg z, if_pos (show 0 ≤ (j : Int) ∧ (j : Int) < ((10 : Nat) : Int) by omega), show ((j : Int) + 1) = ((j + 1 : Nat) : Int) by omega, Int.toNat_natCast]
        refine ih (j + 1) _ (by omega) (by omega) (fun f a i q => by rw [mu_ne _ _ (by omega)]; exact hf f a i q) (fun v hv' => ?_)
        by_cases q : v = j
        · subst q; exact mu_at _ _ _ _ _
        · rw [mu_ne _ _ (by omega)]
          exact hv v (by omega)
  exact go 400 0 C0 (by omega) (by omega) (fun _ _ _ _ => rfl) (fun v hv => absurd hv (Nat.not_lt_zero v))
end CSW
