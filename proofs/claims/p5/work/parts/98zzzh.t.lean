/-! needed of the reference, of the class, by the steps of a text (own work) -/
section NDM
variable {A : mA} {P N : Nat} {c : Nat → kS} {sE : Int → Int}
theorem kSee_nil : kSee 0 [] = 0 := rfl
/-- what a step's E sees -/
theorem m_nin (hP : P < 6) {i : Nat} (h : mS9 A P i (c i)) (hx : okX (c i)) : f_Mo_namesInN 121 A P (A 39 P i) = some (kSee 0 (sC (c i)), A) := by
  by_cases k : sK (c i) = 0 ∨ sK (c i) = 4
  · rw [h.2.2.1 k, m_names0 120, hx.2.2.2 k]
    rfl
  · obtain ⟨y1, n, y2⟩ := h.2.1 (fun r => k (Or.inl r)) (fun r => k (Or.inr r))
    exact m_namesIn hP n _ _ y2 y1 121 (by omega)
theorem m_ndL {nf : mA → Int → Int → Int → Int → Option (Int × mA)} {i T : Nat} {g : Int → Int} (hP : P < 6) (hi : i < 16) (h36 : A 36 P i = T) (hT : T ≤ 9) (hnf : ∀ v, g32 v → nf A P ((i : Int) + 1) (A 37 P i) v = some (g v, A)) (hg : ∀ v, g32 v → g32 (g v)) : ∀ (r n t : Nat) (v : Int), t + r = T → r < n → g32 v → f_Mo_neededAhead_167 nf n A P i v t = some (ndL g r v, A) := by
  intro r
  induction r with
  | zero =>
    intro n t v h1 h2 hv
    obtain ⟨n, rfl⟩ : ∃ q, n = q + 1 := ⟨n - 1, by omega⟩
    rw [f_Mo_neededAhead_167]
    simp only [Int.toNat_natCast]
    rw [if_pos (show 0 ≤ (P : Int) ∧ (P : Int) < ((6 : Nat) : Int) by omega), if_pos (show 0 ≤ (i : Int) ∧ (i : Int) < ((16 : Nat) : Int) by omega), if_pos (show g32 (t : Int) by unfold g32; omega), h36, if_pos (show g32 (T : Int) by unfold g32; omega), if_pos (by omega)]
    rfl
  | succ r ih =>
    intro n t v h1 h2 hv
    obtain ⟨n, rfl⟩ : ∃ q, n = q + 1 := ⟨n - 1, by omega⟩
    rw [f_Mo_neededAhead_167]
    simp only [Int.toNat_natCast]
    rw [if_pos (show 0 ≤ (P : Int) ∧ (P : Int) < ((6 : Nat) : Int) by omega), if_pos (show 0 ≤ (i : Int) ∧ (i : Int) < ((16 : Nat) : Int) by omega), if_pos (show g32 (t : Int) by unfold g32; omega), h36, if_pos (show g32 (T : Int) by unfold g32; omega), if_neg (by omega), hnf v hv, obind]
    exact ih n (t + 1) (g v) (by omega) (by omega) (hg v hv)
theorem m_nd (hP : P < 6) (ho : okN P c N) (hm : ∀ i, i < N → mS9 A P i (c i)) (hx : ∀ i, i < N → okX (c i)) (hs : ∀ u : Nat, u < P → f_Mo_seesN 7 A u = some (sE u, A) ∧ (sE u = 0 ∨ sE u = 1)) : ∀ (K a b : Nat) (n : Nat) (L v : Int), b < a + K → n ≤ 16 → tl c L n a b → b ≤ N → g32 v → f_Mo_neededFromN K A P a b v = some (ndB c (ndS c sE 16) n a b v, A) := by
  have hN := ho.1
  have hr : ∀ i, i < N → ∀ v, g32 v → g32 (ndS c sE 16 i v) := fun i hi => ndS_r ho 16 i (by omega) hi
  intro K
  induction K with
  | zero =>
    intro a b n L v h1 h2 t h3 hv
    have := tl_le _ _ _ t
    omega
  | succ K ih =>
    intro a b n L v h1 h2 t h3 hv
    have hab := tl_le _ _ _ t
    show f_Mo_neededFromT (f_Mo_neededFromN K) A P a b v = _
    unfold f_Mo_neededFromT
    rw [if_pos (show g32 (a : Int) by unfold g32; omega), if_pos (show g32 (b : Int) by unfold g32; omega)]
    by_cases q : a < b
    · cases n with
      | zero => exact absurd (show a = b from t) (by omega)
      | succ n =>
        rcases t with t | ⟨t1, t2, t3, t4, t5, t6⟩
        · omega
        obtain ⟨⟨e34, e35, e36, e37, e38⟩, e39, -, -⟩ := hm a (by omega)
        have ni := m_nin hP (hm a (by omega)) (hx a (by omega))
        obtain ⟨⟨hK, -, hI, g3, g4, g5, g0, gn⟩, g9⟩ := ho.2.2 a (by omega)
        obtain ⟨x1, x2, x3, x4⟩ := hx a (by omega)
        have hb := ih (a + sI (c a)) b n L v (by omega) (by omega) t6 h3 hv
        have hv1 : g32 (ndB c (ndS c sE 16) n (a + sI (c a)) b v) := ndB_r _ _ _ t6 (fun j q1 q2 => hr j (by omega)) v hv
        simp only [Int.toNat_natCast]
        rw [if_pos (show (a : Int) < (b : Int) by omega), if_pos (show 0 ≤ (P : Int) ∧ (P : Int) < ((6 : Nat) : Int) by omega), if_pos (show 0 ≤ (a : Int) ∧ (a : Int) < ((16 : Nat) : Int) by omega), e37, hb, obind]
        show Option.bind (f_Mo_neededAhead (f_Mo_neededFromN K) A P a (ndB c (ndS c sE 16) n (a + sI (c a)) b v)) _ = some ((if a < b then ndS c sE 16 a (ndB c (ndS c sE 16) n (a + sI (c a)) b v) else v), A)
        rw [if_pos q]
        generalize ndB c (ndS c sE 16) n (a + sI (c a)) b v = V at hv1
        have key : f_Mo_neededAhead (f_Mo_neededFromN K) A P a V = some (ndS c sE 16 a V, A) := by
          rw [ndS_eq ho (by omega)]
          have blk : ∀ (a' b' : Nat) (L' V : Int), tl c L' 16 a' b' → a < a' → b' ≤ a + sI (c a) → g32 V → f_Mo_neededFromN K A P a' b' V = some (ndB c (ndS c sE 16) 16 a' b' V, A) := fun a' b' L' V t q1 q2 hV => ih a' b' 16 L' V (by omega) (by omega) t (by omega) hV
          have blkr : ∀ (a' b' : Nat) (L' V : Int), tl c L' 16 a' b' → b' ≤ a + sI (c a) → g32 V → g32 (ndB c (ndS c sE 16) 16 a' b' V) := fun a' b' L' V t q2 hV => ndB_r _ _ _ t (fun j q1 q3 => hr j (by omega)) V hV
          have loop : sK (c a) = 4 → f_Mo_neededAhead_167 (f_Mo_neededFromN K) 20 A P a V 0 = some (ndL (ndB c (ndS c sE 16) 16 (a + 1) (a + sI (c a))) (sU (c a)).toNat V, A) := fun c4 => by
            obtain ⟨-, u1, t1⟩ := g4 c4
            have m := m_ndL (A := A) (nf := f_Mo_neededFromN K) (T := (sU (c a)).toNat) (g := ndB c (ndS c sE 16) 16 (a + 1) (a + sI (c a))) hP (show a < 16 by omega) (by rw [e36]; omega) (by omega) (fun v hv => by
              rw [e37]
              exact blk (a + 1) (a + sI (c a)) _ v t1 (by omega) (Nat.le_refl _) hv) (fun v hv => blkr _ _ _ v t1 (Nat.le_refl _) hv) (sU (c a)).toNat 20 0 V (by omega) (by omega) hv1
            exact m
          have if3 : ∀ (e : Int), sK (c a) = 3 → Option.bind (f_Mo_neededFromN K A P ((a : Int) + 1) (A 38 P a) V) (fun q51 => Option.bind (f_Mo_neededFromN K q51.2 P (q51.2 38 P a) (q51.2 37 P a) V) (fun q55 => some (iOr (iOr q51.1 q55.1) e, q55.2))) = some (iOr (iOr (ndB c (ndS c sE 16) 16 (a + 1) (a + sO (c a)) V) (ndB c (ndS c sE 16) 16 (a + sO (c a)) (a + sI (c a)) V)) e, A) := fun e c3 => by
            obtain ⟨-, o1, o2, t1, t2⟩ := g3 c3
            have k1 := blk (a + 1) (a + sO (c a)) _ V t1 (by omega) (by omega) hv1
            have k2 := blk (a + sO (c a)) (a + sI (c a)) _ V t2 (by omega) (by omega) hv1
            have k1' : f_Mo_neededFromN K A P ((a : Int) + 1) (A 38 P a) V = some (ndB c (ndS c sE 16) 16 (a + 1) (a + sO (c a)) V, A) := by
              rw [e38 c3]
              exact k1
            rw [k1', obind]
            show Option.bind (f_Mo_neededFromN K A P (A 38 P a) (A 37 P a) V) _ = _
            rw [e38 c3, e37, k2, obind]
          unfold f_Mo_neededAhead
          simp only [Int.toNat_natCast]
          rw [if_pos (show 0 ≤ (P : Int) ∧ (P : Int) < ((6 : Nat) : Int) by omega), if_pos (show 0 ≤ (a : Int) ∧ (a : Int) < ((16 : Nat) : Int) by omega), e35, if_pos (show g32 (sN (c a)) by unfold g32; omega)]
          unfold ndF
          by_cases cn : sN (c a) = -1
          · have eb : nBt (c a) = 0 := if_pos cn
            rw [if_pos cn, ni, obind]
            simp only []
            rw [e34, if_pos (show g32 (sK (c a)) by unfold g32; omega), eb]
            by_cases c0 : sK (c a) = 0
            · have := x1 (Or.inl c0)
              omega
            rw [if_neg c0, if_neg c0]
            by_cases c1 : sK (c a) = 1
            · have := x1 (Or.inr (Or.inl c1))
              omega
            rw [if_neg c1, if_neg c1]
            by_cases c2 : sK (c a) = 2
            · rw [if_pos c2, if_pos c2]
            rw [if_neg c2, if_neg c2]
            by_cases c3 : sK (c a) = 3
            · rw [if_pos c3, if_pos c3]
              exact if3 _ c3
            rw [if_neg c3, if_neg c3]
            by_cases c4 : sK (c a) = 4
            · rw [if_pos c4, if_pos c4]
              exact loop c4
            · have := x1 (Or.inr (Or.inr (by omega)))
              omega
          · have eb : nBt (c a) = iShl 1 (sN (c a)) := if_neg cn
            rw [if_neg cn, ni, obind]
            simp only []
            rw [e34, if_pos (show g32 (sK (c a)) by unfold g32; omega), eb]
            by_cases c0 : sK (c a) = 0
            · rw [if_pos c0, if_pos c0]
              rfl
            rw [if_neg c0, if_neg c0]
            by_cases c1 : sK (c a) = 1
            · rw [if_pos c1, if_pos c1]
              by_cases q : iAnd V (iShl 1 (sN (c a))) = 0
              · rw [if_pos q, if_pos q]
              · rw [if_neg q, if_neg q]
                rfl
            rw [if_neg c1, if_neg c1]
            by_cases c2 : sK (c a) = 2
            · rw [if_pos c2, if_pos c2]
            rw [if_neg c2, if_neg c2]
            by_cases c3 : sK (c a) = 3
            · rw [if_pos c3, if_pos c3]
              exact if3 _ c3
            rw [if_neg c3, if_neg c3]
            by_cases c4 : sK (c a) = 4
            · rw [if_pos c4, if_pos c4]
              exact loop c4
            rw [if_neg c4, if_neg c4]
            have c5 : sK (c a) = 5 := by omega
            obtain ⟨u1, u2⟩ := g5 c5
            obtain ⟨s1, s2⟩ := hs (sU (c a)).toNat (by omega)
            have eu : (((sU (c a)).toNat : Nat) : Int) = sU (c a) := Int.toNat_of_nonneg u1
            rw [eu] at s1 s2
            by_cases q : iAnd V (iShl 1 (sN (c a))) = 0
            · rw [if_pos q]
              show Option.bind (f_Mo_seesN 7 A (A 36 P a)) _ = _
              rw [e36, s1, obind]
              show (if g32 (sE (sU (c a))) then _ else none) = _
              rw [if_pos (show g32 (sE (sU (c a))) by unfold g32; omega)]
              by_cases q2 : sE (sU (c a)) = 0
              · rw [if_pos q2, if_pos ⟨q, q2⟩]
              · rw [if_neg q2, if_neg (fun r => q2 r.2)]
                rfl
            · rw [if_neg q, if_neg (fun r => q r.1)]
              rfl
        rw [key, obind]
    · have e : a = b := by omega
      have en : ndB c (ndS c sE 16) n a b v = v := by
        cases n with
        | zero => rfl
        | succ n => exact if_neg q
      rw [if_neg (show ¬ (a : Int) < (b : Int) by omega), en]
end NDM
section NDC
variable {C : mA} {pr N P : Nat} {c : Nat → kS} {sE : Int → Int}
theorem c_lvl (hN : N ≤ 16) (h4 : ∀ i, i < N → C 6 (sAd C pr i) 4 = sV (c i) ∧ (0 ≤ sV (c i) ∧ sV (c i) ≤ 4)) {nao : mA → Nat → Int → Int → Int → Option (Int × mA)} {a : Nat} {d : Int} (hd : 0 ≤ d ∧ d ≤ 4) (ha : a < N) {L : Int} (hLa : sV (c a) = L) : ∀ (k j F : Nat) (v : Int), (∀ q, j ≤ q → q < j + k → L < sV (c q)) → j + k ≤ N → a ≤ j → f_Prog_neededAhead_8 nao (F + k) C pr a d v (((j + k : Nat) : Int) - 1) = f_Prog_neededAhead_8 nao F C pr a d v ((j : Int) - 1) := by
  intro k
  induction k with
  | zero => intro j F v _ _ _; rfl
  | succ k ih =>
    intro j F v h1 h2 h3
    rw [show F + (k + 1) = (F + k) + 1 by omega, f_Prog_neededAhead_8]
    have lj := h4 (j + k) (by omega)
    have la := h4 a ha
    have gt := h1 (j + k) (by omega) (by omega)
    have ej : (((j + (k + 1) : Nat) : Int) - 1) = ((j + k : Nat) : Int) := by omega
    rw [ej, if_pos (show g32 ((j + k : Nat) : Int) by unfold g32; omega), if_pos (show g32 (a : Int) by unfold g32; omega), if_neg (by omega), if_pos (show g32 d by unfold g32; omega), if_neg (by omega), c_stepA6 (by omega) (by omega), obind]
    show Option.bind (f_Prog_stepAt C pr a) _ = _
    rw [c_stepA6 (by omega) (by omega), obind]
    simp only [Int.toNat_natCast]
    rw [lj.1, la.1, if_pos (show g32 _ by unfold g32; omega), if_pos (show g32 _ by unfold g32; omega), if_neg (by omega)]
    have := ih j F v (fun q q1 q2 => h1 q q1 (by omega)) (by omega) h3
    exact this
theorem c_ndA (hN : N ≤ 16) (h4 : ∀ i, i < N → C 6 (sAd C pr i) 4 = sV (c i) ∧ (0 ≤ sV (c i) ∧ sV (c i) ≤ 4)) {nao : mA → Nat → Int → Int → Int → Option (Int × mA)} {h : Nat → Int → Int} {a b : Nat} {d L : Int} (hd : 0 ≤ d ∧ d ≤ 4) (hb : b ≤ N) (hLa : a < b → sV (c a) = L) (hn : ∀ i, a ≤ i → i < b → sV (c i) = L → ∀ v, g32 v → nao C pr i v d = some (h i v, C)) (hr : ∀ i, a ≤ i → i < b → ∀ v, g32 v → g32 (h i v)) : ∀ (n a' F : Nat) (v : Int), a ≤ a' → tl c L n a' b → g32 v → f_Prog_neededAhead_8 nao (F + (b - a')) C pr a d v ((b : Int) - 1) = f_Prog_neededAhead_8 nao F C pr a d (ndB c h n a' b v) ((a' : Int) - 1) := by
  intro n
  induction n with
  | zero =>
    intro a' F v h1 t hv
    have t : a' = b := t
    subst t
    rw [Nat.sub_self]
    rfl
  | succ n ih =>
    intro a' F v h1 t hv
    rcases t with t | ⟨t1, t2, t3, t4, t5, t6⟩
    · subst t
      rw [Nat.sub_self]
      unfold ndB
      rw [if_neg (Nat.lt_irrefl _)]
      rfl
    · have e0 : F + (b - a') = (F + 1 + (sI (c a') - 1)) + (b - (a' + sI (c a'))) := by omega
      rw [e0, ih (a' + sI (c a')) (F + 1 + (sI (c a') - 1)) v (by omega) t6 hv]
      have hv1 : g32 (ndB c h n (a' + sI (c a')) b v) := ndB_r _ _ _ t6 (fun j q1 q2 => hr j (by omega) q2) v hv
      show _ = f_Prog_neededAhead_8 nao F C pr a d (if a' < b then h a' (ndB c h n (a' + sI (c a')) b v) else v) ((a' : Int) - 1)
      rw [if_pos t1]
      generalize ndB c h n (a' + sI (c a')) b v = V at hv1
      have sk := c_lvl (pr := pr) hN h4 (nao := nao) hd (show a < N by omega) (hLa (by omega)) (sI (c a') - 1) (a' + 1) (F + 1) V (fun q q1 q2 => t5 q (by omega) (by omega)) (by omega) (by omega)
      rw [show a' + 1 + (sI (c a') - 1) = a' + sI (c a') by omega] at sk
      rw [sk, f_Prog_neededAhead_8]
      have la' := h4 a' (by omega)
      have la := h4 a (by omega)
      have eL := hLa (by omega)
      have ej : ((a' + 1 : Nat) : Int) - 1 = (a' : Int) := by omega
      rw [ej, if_pos (show g32 (a' : Int) by unfold g32; omega), if_pos (show g32 (a : Int) by unfold g32; omega), if_neg (by omega), if_pos (show g32 d by unfold g32; omega), if_neg (by omega), c_stepA6 (by omega) (by omega), obind]
      show Option.bind (f_Prog_stepAt C pr a) _ = _
      rw [c_stepA6 (by omega) (by omega), obind]
      simp only [Int.toNat_natCast]
      rw [la'.1, la.1, if_pos (show g32 _ by unfold g32; omega), if_pos (show g32 _ by unfold g32; omega), if_pos (by omega), hn a' h1 t1 t2 V hv1, obind]
      rfl
/-- a block -/
theorem c_ndBl (hN : N ≤ 16) (h4 : ∀ i, i < N → C 6 (sAd C pr i) 4 = sV (c i) ∧ (0 ≤ sV (c i) ∧ sV (c i) ≤ 4)) {nao : mA → Nat → Int → Int → Int → Option (Int × mA)} {h : Nat → Int → Int} {a b : Nat} {d L : Int} (hd : 0 ≤ d ∧ d ≤ 4) (hb : b ≤ N) (t : tl c L 16 a b) (hn : ∀ i, a ≤ i → i < b → sV (c i) = L → ∀ v, g32 v → nao C pr i v d = some (h i v, C)) (hr : ∀ i, a ≤ i → i < b → ∀ v, g32 v → g32 (h i v)) {v : Int} (hv : g32 v) : f_Prog_neededAhead nao C pr a b v d = some (ndB c h 16 a b v, C) := by
  have hab := tl_le _ _ _ t
  unfold f_Prog_neededAhead
  have k := c_ndA (pr := pr) hN h4 (nao := nao) (h := h) hd hb (fun q => by
    rcases t with t | ⟨t1, t2, -⟩
    · omega
    · exact t2) hn hr 16 a (20 - (b - a)) v (Nat.le_refl a) t hv
  rw [show 20 - (b - a) + (b - a) = 20 by omega] at k
  rw [k]
  obtain ⟨n, e⟩ : ∃ n, 20 - (b - a) = n + 1 := ⟨19 - (b - a), by omega⟩
  rw [e, f_Prog_neededAhead_8, if_pos (show g32 ((a : Int) - 1) by unfold g32; omega), if_pos (show g32 (a : Int) by unfold g32; omega), if_pos (by omega)]
theorem c_behind9 {i : Nat} {s : kS} (hi : i < 16) (h : C 6 (sAd C pr i) 3 = ((sI s : Nat) : Int)) (h1 : 1 ≤ sI s) (h16 : i + sI s ≤ 16) : f_Prog_behind C pr i = some (((i + sI s : Nat) : Int), C) := by
  unfold f_Prog_behind
  rw [c_stepA6 (by omega) (by omega), obind]
  simp only [Int.toNat_natCast]
  rw [h, if_pos (show g32 _ by unfold g32; omega)]
  congr 2
  omega
theorem c_ndT (hN : N ≤ 16) {nao : mA → Nat → Int → Int → Int → Option (Int × mA)} {i T : Nat} {g : Int → Int} {d : Int} (hT : T ≤ 9) (hi : i < N) (hbh : f_Prog_behind C pr i = some (((i + sI (c i) : Nat) : Int), C)) (hna : ∀ v, g32 v → f_Prog_neededAhead nao C pr ((i : Int) + 1) ((i + sI (c i) : Nat) : Int) v (d + 1) = some (g v, C)) (hg : ∀ v, g32 v → g32 (g v)) : ∀ (r n t : Nat) (v : Int), t + r = T → r < n → g32 v → f_Prog_neededAheadOfTimes_6 nao n C pr i T d v t = some (ndL g r v, C) := by
  intro r
  induction r with
  | zero =>
    intro n t v h1 h2 hv
    obtain ⟨n, rfl⟩ : ∃ q, n = q + 1 := ⟨n - 1, by omega⟩
    rw [f_Prog_neededAheadOfTimes_6, if_pos (show g32 (t : Int) by unfold g32; omega), if_pos (show g32 (T : Int) by unfold g32; omega), if_pos (by omega)]
    rfl
  | succ r ih =>
    intro n t v h1 h2 hv
    obtain ⟨n, rfl⟩ : ∃ q, n = q + 1 := ⟨n - 1, by omega⟩
    rw [f_Prog_neededAheadOfTimes_6, if_pos (show g32 (t : Int) by unfold g32; omega), if_pos (show g32 (T : Int) by unfold g32; omega), if_neg (by omega), hbh, obind]
    show Option.bind (f_Prog_neededAhead nao C pr ((i : Int) + 1) ((i + sI (c i) : Nat) : Int) v (d + 1)) _ = _
    rw [hna v hv, obind]
    exact ih n (t + 1) (g v) (by omega) (by omega) (hg v hv)
theorem c_nao (ho : okN P c N) (hC : ∀ i, i < N → cS9 C pr i (c i)) (hx : ∀ i, i < N → okX (c i)) (h12 : ∀ i, i < N → C 6 (sAd C pr i) 12 = vSee c sE i) (hs : ∀ u : Nat, u < P → sE u = 0 ∨ sE u = 1) : ∀ (K i : Nat) (v : Int), i < N → 5 ≤ K + sV (c i) → g32 v → f_Prog_naoN K C pr i v (sV (c i)) = some (ndS c sE 16 i v, C) := by
  have hN := ho.1
  have hr : ∀ i, i < N → ∀ v, g32 v → g32 (ndS c sE 16 i v) := fun i hi => ndS_r ho 16 i (by omega) hi
  have h4 : ∀ i, i < N → C 6 (sAd C pr i) 4 = sV (c i) ∧ (0 ≤ sV (c i) ∧ sV (c i) ≤ 4) := fun i hi => ⟨(hC i hi).1.2.2.2.2, (ho.2.2 i hi).1.2.1⟩
  intro K
  induction K with
  | zero =>
    intro i v h1 h2 hv
    have := (h4 i h1).2
    omega
  | succ K ih =>
    intro i v h1 h2 hv
    obtain ⟨⟨e0, e1, e2, e3, e4⟩, e5, e6, -, -⟩ := hC i h1
    obtain ⟨⟨hK, hV, hI, g3, g4, g5, g0, gn⟩, g9⟩ := ho.2.2 i h1
    obtain ⟨x1, x2, x3, x4⟩ := hx i h1
    have bh : f_Prog_behind C pr i = some (((i + sI (c i) : Nat) : Int), C) := c_behind9 (by omega) e3 hI (by omega)
    show f_Prog_neededAheadOf (f_Prog_naoN K) C pr i v (sV (c i)) = _
    rw [ndS_eq ho h1]
    have blk : ∀ (a' b' : Nat) (V : Int), tl c (sV (c i) + 1) 16 a' b' → b' ≤ i + sI (c i) → sV (c i) ≤ 3 → g32 V → f_Prog_neededAhead (f_Prog_naoN K) C pr a' b' V (sV (c i) + 1) = some (ndB c (ndS c sE 16) 16 a' b' V, C) := fun a' b' V t q2 q3 hV => c_ndBl hN h4 (by omega) (by omega) t (fun j p1 p2 p3 V2 hV2 => by
      have := ih j V2 (by omega) (by omega) hV2
      rw [p3] at this
      exact this) (fun j p1 p2 => hr j (by omega)) hV
    have blkr : ∀ (a' b' : Nat) (L' V : Int), tl c L' 16 a' b' → b' ≤ i + sI (c i) → g32 V → g32 (ndB c (ndS c sE 16) 16 a' b' V) := fun a' b' L' V t q2 hV => ndB_r _ _ _ t (fun j q1 q3 => hr j (by omega)) V hV
    have if3 : sK (c i) = 3 → Option.bind (f_Prog_neededAhead (f_Prog_naoN K) C pr ((i : Int) + 1) (C 6 (sAd C pr i) 5) v (sV (c i) + 1)) (fun q33 => Option.bind (f_Prog_neededAhead (f_Prog_naoN K) q33.2 pr (q33.2 6 (sAd C pr i) 5) ((i + sI (c i) : Nat) : Int) v (sV (c i) + 1)) (fun q35 => some (iOr (iOr (C 6 (sAd C pr i) 6) q33.1) q35.1, q35.2))) = some (iOr (iOr (ndB c (ndS c sE 16) 16 (i + 1) (i + sO (c i)) v) (ndB c (ndS c sE 16) 16 (i + sO (c i)) (i + sI (c i)) v)) (kSee 0 (sC (c i))), C) := fun c3 => by
      obtain ⟨l3, o1, o2, t1, t2⟩ := g3 c3
      have k1 := blk (i + 1) (i + sO (c i)) v t1 (by omega) l3 hv
      have k2 := blk (i + sO (c i)) (i + sI (c i)) v t2 (by omega) l3 hv
      have k1' : f_Prog_neededAhead (f_Prog_naoN K) C pr ((i : Int) + 1) (C 6 (sAd C pr i) 5) v (sV (c i) + 1) = some (ndB c (ndS c sE 16) 16 (i + 1) (i + sO (c i)) v, C) := by
        rw [e5 c3]
        exact k1
      rw [k1', obind]
      show Option.bind (f_Prog_neededAhead (f_Prog_naoN K) C pr (C 6 (sAd C pr i) 5) ((i + sI (c i) : Nat) : Int) v (sV (c i) + 1)) _ = _
      rw [e5 c3, k2, obind, e6, iOr_3]
    have loop : sK (c i) = 4 → Option.bind (f_Prog_neededAheadOfTimes (f_Prog_naoN K) C pr i (C 6 (sAd C pr i) 2) v (sV (c i))) (fun q38 => some (q38.1, q38.2)) = some (ndL (ndB c (ndS c sE 16) 16 (i + 1) (i + sI (c i))) (sU (c i)).toNat v, C) := fun c4 => by
      obtain ⟨l3, u1, t1⟩ := g4 c4
      have m := c_ndT (C := C) (pr := pr) (c := c) hN (nao := f_Prog_naoN K) (T := (sU (c i)).toNat) (g := ndB c (ndS c sE 16) 16 (i + 1) (i + sI (c i))) (d := sV (c i)) (by omega) h1 bh (fun V hV => blk (i + 1) (i + sI (c i)) V t1 (Nat.le_refl _) l3 hV) (fun V hV => blkr _ _ _ V t1 (Nat.le_refl _) hV) (sU (c i)).toNat 20 0 v (by omega) (by omega) hv
      have m' : f_Prog_neededAheadOfTimes (f_Prog_naoN K) C pr i (C 6 (sAd C pr i) 2) v (sV (c i)) = some (ndL (ndB c (ndS c sE 16) 16 (i + 1) (i + sI (c i))) (sU (c i)).toNat v, C) := by
        rw [e2, ← Int.toNat_of_nonneg u1.1]
        exact m
      rw [m', obind]
    unfold f_Prog_neededAheadOf
    rw [c_stepA6 (by omega) (by omega), obind]
    show Option.bind (f_Prog_behind C pr i) _ = _
    rw [bh, obind]
    simp only [Int.toNat_natCast]
    rw [e1, if_pos (show g32 (sN (c i)) by unfold g32; omega)]
    unfold ndF
    by_cases cn : sN (c i) = -1
    · have eb : nBt (c i) = 0 := if_pos cn
      rw [if_pos cn, e0, if_pos (show g32 (sK (c i)) by unfold g32; omega)]
      by_cases c0 : sK (c i) = 0
      · have := x1 (Or.inl c0)
        omega
      rw [if_neg c0, if_neg c0]
      by_cases c1 : sK (c i) = 1
      · have := x1 (Or.inr (Or.inl c1))
        omega
      rw [if_neg c1, if_neg c1]
      by_cases c2 : sK (c i) = 2
      · rw [if_pos c2, if_pos c2, e6]
      rw [if_neg c2, if_neg c2]
      by_cases c3 : sK (c i) = 3
      · rw [if_pos c3, if_pos c3]
        exact if3 c3
      rw [if_neg c3, if_neg c3]
      by_cases c4 : sK (c i) = 4
      · rw [if_pos c4, if_pos c4]
        exact loop c4
      · have := x1 (Or.inr (Or.inr (by omega)))
        omega
    · have eb : nBt (c i) = iShl 1 (sN (c i)) := if_neg cn
      have en : iAnd v (iXor (iShl 1 (sN (c i))) (-1)) = nAn v (nBt (c i)) := by
        rw [eb]
        rfl
      rw [if_neg cn, e0, if_pos (show g32 (sK (c i)) by unfold g32; omega), en]
      by_cases c0 : sK (c i) = 0
      · rw [if_pos c0, if_pos c0]
      rw [if_neg c0, if_neg c0]
      by_cases c1 : sK (c i) = 1
      · rw [if_pos c1, if_pos c1, if_pos hv]
        by_cases q : iAnd v (nBt (c i)) = 0
        · rw [if_pos ((nAn_e hv).mpr q), if_pos q]
        · rw [if_neg (fun r => q ((nAn_e hv).mp r)), if_neg q, e6]
      rw [if_neg c1, if_neg c1]
      by_cases c2 : sK (c i) = 2
      · rw [if_pos c2, if_pos c2, e6]
      rw [if_neg c2, if_neg c2]
      by_cases c3 : sK (c i) = 3
      · rw [if_pos c3, if_pos c3]
        exact if3 c3
      rw [if_neg c3, if_neg c3]
      by_cases c4 : sK (c i) = 4
      · rw [if_pos c4, if_pos c4]
        exact loop c4
      rw [if_neg c4, if_neg c4, if_pos hv]
      have c5 : sK (c i) = 5 := by omega
      obtain ⟨u1, u2⟩ := g5 c5
      have s2 := hs (sU (c i)).toNat (by omega)
      have eu : (((sU (c i)).toNat : Nat) : Int) = sU (c i) := Int.toNat_of_nonneg u1
      rw [eu] at s2
      have ev : vSee c sE i = sE (sU (c i)) := by
        unfold vSee
        rw [if_neg (by omega), if_pos c5]
      by_cases q : iAnd v (nBt (c i)) = 0
      · rw [if_pos ((nAn_e hv).mpr q), h12 i h1, ev, if_pos (show g32 (sE (sU (c i))) by unfold g32; omega)]
        by_cases q2 : sE (sU (c i)) = 0
        · rw [if_pos q2, if_pos ⟨q, q2⟩]
        · rw [if_neg q2, if_neg (fun r => q2 r.2), e6]
      · rw [if_neg (fun r => q ((nAn_e hv).mp r)), if_neg (fun r => q r.1), e6]
end NDC
