/-! odds of the reference: what come, becomes, all and taken do to the content (own work) -/
def oC (A : mA) (k : Nat) : List xE := (List.range (A 1 k 2).toNat).map (fun j => (A 3 k j, A 4 k j))
def rOd (A A' : mA) (k : Nat) : Prop := ∀ f a j, ¬ (a = k ∧ (f = 3 ∨ f = 4 ∨ (f = 1 ∧ j = 2))) → A' f a j = A f a j
def oK (A : mA) (k : Nat) : Prop := (0 ≤ A 1 k 2 ∧ A 1 k 2 ≤ 301) ∧ ∀ j : Nat, (j : Int) < A 1 k 2 → 0 ≤ A 3 k j ∧ A 3 k j ≤ 999999
theorem rOd.refl {A : mA} {k : Nat} : rOd A A k := fun _ _ _ _ => rfl
theorem rOd.trans {A A' A'' : mA} {k : Nat} (h : rOd A A' k) (h' : rOd A' A'' k) : rOd A A'' k := fun f a j q => (h' f a j q).trans (h f a j q)
theorem mpt_ins : ∀ {l : List xE} {x : xE} {lo : Nat}, lo ≤ l.length → (∀ j (h : j < l.length), j < lo → (l[j]).1 < x.1) → (∀ j (h : j < l.length), lo ≤ j → x.1 < (l[j]).1) → mpt l x = l.take lo ++ x :: l.drop lo
  | [], x, lo, _, _, _ => by simp [mpt]
  | y :: l, x, 0, _, _, h2 => by
    have h : x.1 < y.1 := h2 0 (by simp) (Nat.le_refl _)
    unfold mpt
    rw [if_neg (by omega), if_neg (by omega)]
    rfl
  | y :: l, x, lo + 1, h0, h1, h2 => by
    have h : y.1 < x.1 := h1 0 (by simp) (by omega)
    unfold mpt
    rw [if_pos h, mpt_ins (lo := lo) (by simpa using h0) (fun j hj q => h1 (j + 1) (by simpa using hj) (by omega)) (fun j hj q => h2 (j + 1) (by simpa using hj) (by omega))]
    rfl
theorem mpt_upd : ∀ {l : List xE} {x : xE} {lo : Nat} (h0 : lo < l.length), (∀ j (h : j < l.length), j < lo → (l[j]).1 < x.1) → (l[lo]).1 = x.1 → mpt l x = l.set lo (x.1, (l[lo]).2 + x.2)
  | [], x, lo, h, _, _ => by cases h
  | y :: l, x, 0, _, _, h2 => by
    have h : y.1 = x.1 := h2
    unfold mpt
    rw [if_neg (by omega), if_pos h, h]
    rfl
  | y :: l, x, lo + 1, h0, h1, h2 => by
    have h : y.1 < x.1 := h1 0 (by simp) (by omega)
    unfold mpt
    rw [if_pos h, mpt_upd (lo := lo) (by simpa using h0) (fun j hj q => h1 (j + 1) (by simpa using hj) (by omega)) h2]
    rfl
theorem rng_ins {α : Type} {f g : Nat → α} {m lo : Nat} (h : lo ≤ m) (h1 : ∀ j, j < lo → g j = f j) (h2 : ∀ j, lo ≤ j → j < m → g (j + 1) = f j) : (List.range (m + 1)).map g = ((List.range m).map f).take lo ++ g lo :: ((List.range m).map f).drop lo := by
  apply List.ext_getElem
  · simp; omega
  · intro i hi hj
    rw [List.getElem_map, List.getElem_range]
    by_cases k : i < lo
    · rw [List.getElem_append_left (by simp; omega)]
      simp [h1 i k]
    · rw [List.getElem_append_right (by simp; omega)]
      have e : (((List.range m).map f).take lo).length = lo := by simp; omega
      by_cases q : i = lo
      · subst q
        simp [e]
      · obtain ⟨t, rfl⟩ : ∃ t, i = t + 1 := ⟨i - 1, by omega⟩
        have e2 : t + 1 - (((List.range m).map f).take lo).length = (t - lo) + 1 := by rw [e]; omega
        simp only [e2, List.getElem_cons_succ]
        rw [List.getElem_drop, List.getElem_map, List.getElem_range]
        have e3 : lo + (t - lo) = t := by omega
        rw [e3]
        exact h2 t (by omega) (by simp at hi; omega)
theorem oC_len {A : mA} {k : Nat} : (oC A k).length = (A 1 k 2).toNat := by simp [oC]
theorem oC_get {A : mA} {k j : Nat} (h : j < (oC A k).length) : (oC A k)[j] = (A 3 k j, A 4 k j) := by simp [oC]
theorem oC_cg {A A' : mA} {k k' : Nat} (h1 : A' 1 k' 2 = A 1 k 2) (h2 : ∀ j : Nat, (j : Int) < A 1 k 2 → A' 3 k' j = A 3 k j ∧ A' 4 k' j = A 4 k j) : oC A' k' = oC A k := by
  unfold oC
  rw [h1]
  apply List.map_congr_left
  intro j hj
  have hj := List.mem_range.mp hj
  obtain ⟨e1, e2⟩ := h2 j (by omega)
  rw [e1, e2]
theorem rOd.oC {A A' : mA} {k k' : Nat} (h : rOd A A' k) (hk : k' ≠ k) : oC A' k' = oC A k' := oC_cg (h 1 k' 2 (fun q => hk q.1)) (fun j _ => ⟨h 3 k' j (fun q => hk q.1), h 4 k' j (fun q => hk q.1)⟩)
theorem mcp3 {A : mA} {k a b c : Nat} : mcp A 3 k a 3 k b c 1 k 2 = A 1 k 2 := by rw [mcp_fk A (by omega)]
theorem mcp4 {A : mA} {k a b c : Nat} : mcp A 4 k a 4 k b c 1 k 2 = A 1 k 2 := by rw [mcp_fk A (by omega)]
/-- one is put in between -/
def insM (A : mA) (k lo m : Nat) (s w : Int) : mA := mu (mu (mu (mcp (mcp A 3 k lo 3 k (lo + 1) (m - lo)) 4 k lo 4 k (lo + 1) (m - lo)) 3 k lo s) 4 k lo w) 1 k 2 ((m : Int) + 1)
theorem insM_ok {A : mA} {k lo m : Nat} {s w : Int} (hm : A 1 k 2 = m) (h : lo ≤ m) (h1 : ∀ j, j < lo → A 3 k j < s) (h2 : ∀ j, lo ≤ j → j < m → s < A 3 k j) : oC (insM A k lo m s w) k = mpt (oC A k) (s, w) ∧ rOd A (insM A k lo m s w) k := by
  have e1 : insM A k lo m s w 1 k 2 = (m : Int) + 1 := mu_at _ _ _ _ _
  have e3 : ∀ j, insM A k lo m s w 3 k j = if j = lo then s else (mcp A 3 k lo 3 k (lo + 1) (m - lo)) 3 k j := fun j => by
    unfold insM
    rw [mu_ne _ _ (by omega), mu_ne _ _ (by omega)]
    by_cases q : j = lo
    · rw [if_pos q, q, mu_at]
    · rw [if_neg q, mu_ne _ _ (by omega), mcp_fk _ (by omega)]
  have e4 : ∀ j, insM A k lo m s w 4 k j = if j = lo then w else (mcp A 4 k lo 4 k (lo + 1) (m - lo)) 4 k j := fun j => by
    unfold insM
    rw [mu_ne _ _ (by omega)]
    by_cases q : j = lo
    · rw [if_pos q, q, mu_at]
    · rw [if_neg q, mu_ne _ _ (by omega), mu_ne _ _ (by omega)]
      have hX : ∀ j, mcp A 3 k lo 3 k (lo + 1) (m - lo) 4 k j = A 4 k j := fun j => by rw [mcp_fk _ (by omega)]
      generalize mcp A 3 k lo 3 k (lo + 1) (m - lo) = X at hX
      unfold mcp
      simp only [hX]
  have lowv : ∀ f j, j < lo → (mcp A f k lo f k (lo + 1) (m - lo)) f k j = A f k j := fun f j q => by
    unfold mcp
    rw [if_neg (by omega)]
  have hiv : ∀ f j, lo ≤ j → j < m → (mcp A f k lo f k (lo + 1) (m - lo)) f k (j + 1) = A f k j := fun f j q q2 => by
    unfold mcp
    rw [if_pos ⟨rfl, rfl, by omega, by omega⟩]
    congr 1
    omega
  refine ⟨?_, fun f a j q => ?_⟩
  · unfold oC
    rw [e1, hm]
    have e5 : ((m : Int) + 1).toNat = m + 1 := by omega
    have e6 : ((m : Nat) : Int).toNat = m := by omega
    rw [e5, e6]
    have hl : ((List.range m).map (fun j => (A 3 k j, A 4 k j))).length = m := by simp
    rw [mpt_ins (lo := lo) (by rw [hl]; exact h) (fun j hj q => by simpa using h1 j q) (fun j hj q => by rw [hl] at hj; simpa using h2 j q hj)]
    rw [rng_ins (f := fun j => (A 3 k j, A 4 k j)) h (fun j q => ?_) (fun j q q2 => ?_)]
    · rw [e3, e4, if_pos rfl, if_pos rfl]
    · show (_, _) = (_, _)
      rw [e3, e4, if_neg (by omega), if_neg (by omega), lowv 3 j q, lowv 4 j q]
    · show (_, _) = (_, _)
      rw [e3, e4, if_neg (by omega), if_neg (by omega), hiv 3 j q q2, hiv 4 j q q2]
  · unfold insM
    rw [mu_ne _ _ (by omega), mu_ne _ _ (by omega), mu_ne _ _ (by omega), mcp_fk _ (by omega), mcp_fk _ (by omega)]
/-- the place is found -/
theorem come_f {A : mA} {k : Nat} {s w : Int} (hK : oK A k) (hs : srt (oC A k)) (gs : g32 s) (h0 : w ≠ 0) : ∀ (F lo hi : Nat), lo ≤ hi → (hi : Int) ≤ A 1 k 2 → hi - lo < 2 ^ F → (∀ j, j < lo → A 3 k j < s) → (∀ j : Nat, hi ≤ j → (j : Int) < A 1 k 2 → s ≤ A 3 k j) →
    ∃ A', f_Odds_come_16 (F + 1) A k s w lo hi = some (0, A') ∧ oC A' k = mpc (oC A k) (s, w) ∧ rOd A A' k ∧ (0 ≤ A' 1 k 2 ∧ A' 1 k 2 ≤ 301) := by
  obtain ⟨⟨hm0, hm1⟩, hst⟩ := hK
  obtain ⟨m, hm⟩ : ∃ m : Nat, A 1 k 2 = m := ⟨(A 1 k 2).toNat, by omega⟩
  have hm3 : m ≤ 301 := by omega
  have hlen : (oC A k).length = m := by rw [oC_len, hm]; rfl
  have hin : ∀ lo : Nat, (∀ j, j < lo → A 3 k j < s) → (∀ j : Nat, lo ≤ j → j < m → s ≤ A 3 k j) → ∀ j, (hj : j < (oC A k).length) → (j < lo → ((oC A k)[j]).1 < s) ∧ (lo ≤ j → s ≤ ((oC A k)[j]).1) := fun lo h1 h2 j hj => by
    rw [oC_get]
    exact ⟨fun q => h1 j q, fun q => h2 j q (by omega)⟩
  have memk : ∀ q : Int, q ∈ kys (oC A k) ↔ ∃ j, j < m ∧ A 3 k j = q := fun q => by
    simp only [kys, oC, List.map_map, List.mem_map, List.mem_range, hm]
    constructor
    · rintro ⟨j, h1, h2⟩; exact ⟨j, by omega, h2⟩
    · rintro ⟨j, h1, h2⟩; exact ⟨j, by omega, h2⟩
  -- the end of the search
  have fin : ∀ (F lo : Nat), lo ≤ m → (∀ j, j < lo → A 3 k j < s) → (∀ j : Nat, lo ≤ j → j < m → s ≤ A 3 k j) → ∃ A', f_Odds_come_16 (F + 1) A k s w lo lo = some (0, A') ∧ oC A' k = mpc (oC A k) (s, w) ∧ rOd A A' k ∧ (0 ≤ A' 1 k 2 ∧ A' 1 k 2 ≤ 301) := fun F lo h1 h4 h5 => by
    have hne : ¬ (s, w).2 = 0 := h0
    have g1 : g32 (lo : Int) := by unfold g32; omega
    have g2 : g32 (m : Int) := by unfold g32; omega
    have insW : ¬ s ∈ kys (oC A k) → (∀ j, lo ≤ j → j < m → s < A 3 k j) → ∃ A', (if (m : Int) ≤ 300 then some ((0 : Int), insM A k lo m s w) else some (0, A)) = some (0, A') ∧ oC A' k = mpc (oC A k) (s, w) ∧ rOd A A' k ∧ (0 ≤ A' 1 k 2 ∧ A' 1 k 2 ≤ 301) := fun hn hq => by
      unfold mpc
      rw [if_neg hne]
      by_cases z : m ≤ 300
      · rw [if_pos (by omega), if_neg (fun q => by rw [hlen] at q; omega)]
        obtain ⟨y1, y2⟩ := insM_ok (A := A) (k := k) (s := s) (w := w) hm h1 h4 hq
        exact ⟨_, rfl, y1, y2, by rw [show insM A k lo m s w 1 k 2 = (m : Int) + 1 from mu_at _ _ _ _ _]; omega⟩
      · rw [if_neg (by omega), if_pos ⟨by rw [hlen]; omega, hn⟩]
        exact ⟨_, rfl, rfl, rOd.refl, by rw [hm]; omega⟩
    have t1 : ((lo : Nat) : Int).toNat = lo := by omega
    have t2 : ((lo : Int) + 1).toNat = lo + 1 := by omega
    have t3 : ((m : Int) - lo).toNat = m - lo := by omega
    unfold f_Odds_come_16
    simp only [mcp3, mcp4, hm, t1, t2, t3]
    rw [if_pos g1, if_pos g1, if_pos (Int.le_refl _), if_pos g2]
    have sub : (if (m : Int) ≤ 300 then (if (0 : Int) ≤ lo ∧ (0 : Int) ≤ (lo : Int) + 1 ∧ (0 : Int) ≤ (m : Int) - lo ∧ (lo : Int) + ((m : Int) - lo) ≤ 301 ∧ (lo : Int) + 1 + ((m : Int) - lo) ≤ 301 then (if (0 : Int) ≤ lo ∧ (0 : Int) ≤ (lo : Int) + 1 ∧ (0 : Int) ≤ (m : Int) - lo ∧ (lo : Int) + ((m : Int) - lo) ≤ 301 ∧ (lo : Int) + 1 + ((m : Int) - lo) ≤ 301 then (if 0 ≤ (lo : Int) ∧ (lo : Int) < ((301 : Nat) : Int) then some ((0 : Int), mu (mu (mu (mcp (mcp A 3 k lo 3 k (lo + 1) (m - lo)) 4 k lo 4 k (lo + 1) (m - lo)) 3 k lo s) 4 k lo w) 1 k 2 ((m : Int) + 1)) else none) else none) else none) else some (0, A)) = (if (m : Int) ≤ 300 then some ((0 : Int), insM A k lo m s w) else some (0, A)) := by
      by_cases z : m ≤ 300
      · rw [if_pos (show (m : Int) ≤ 300 by omega), if_pos (show (m : Int) ≤ 300 by omega), if_pos ⟨by omega, by omega, by omega, by omega, by omega⟩, if_pos ⟨by omega, by omega, by omega, by omega, by omega⟩, if_pos (show 0 ≤ (lo : Int) ∧ (lo : Int) < ((301 : Nat) : Int) by omega)]
        rfl
      · rw [if_neg (show ¬ (m : Int) ≤ 300 by omega), if_neg (show ¬ (m : Int) ≤ 300 by omega)]
    have sub2 : (if (m : Int) ≤ 300 then (if (0 : Int) ≤ lo ∧ (0 : Int) ≤ (lo : Int) + 1 ∧ (0 : Int) ≤ (m : Int) - lo ∧ (lo : Int) + ((m : Int) - lo) ≤ 301 ∧ (lo : Int) + 1 + ((m : Int) - lo) ≤ 301 then (if (0 : Int) ≤ lo ∧ (0 : Int) ≤ (lo : Int) + 1 ∧ (0 : Int) ≤ (m : Int) - lo ∧ (lo : Int) + ((m : Int) - lo) ≤ 301 ∧ (lo : Int) + 1 + ((m : Int) - lo) ≤ 301 then some ((0 : Int), mu (mu (mu (mcp (mcp A 3 k lo 3 k (lo + 1) (m - lo)) 4 k lo 4 k (lo + 1) (m - lo)) 3 k lo s) 4 k lo w) 1 k 2 ((m : Int) + 1)) else none) else none) else some (0, A)) = (if (m : Int) ≤ 300 then some ((0 : Int), insM A k lo m s w) else some (0, A)) := by
      by_cases z : m ≤ 300
      · rw [if_pos (show (m : Int) ≤ 300 by omega), if_pos (show (m : Int) ≤ 300 by omega), if_pos ⟨by omega, by omega, by omega, by omega, by omega⟩, if_pos ⟨by omega, by omega, by omega, by omega, by omega⟩]
        rfl
      · rw [if_neg (show ¬ (m : Int) ≤ 300 by omega), if_neg (show ¬ (m : Int) ≤ 300 by omega)]
    rw [sub, sub2]
    by_cases z : m ≤ lo
    · rw [if_pos (show (m : Int) ≤ lo by omega)]
      refine insW (fun q => ?_) (fun j q1 q2 => by omega)
      obtain ⟨j, j1, j2⟩ := (memk s).mp q
      have := h4 j (by omega)
      omega
    · rw [if_neg (show ¬ (m : Int) ≤ lo by omega), if_pos (show 0 ≤ (lo : Int) ∧ (lo : Int) < ((301 : Nat) : Int) by omega)]
      have g3 : g32 (A 3 k lo) := by have := hst lo (by omega); unfold g32; omega
      rw [if_pos g3, if_pos gs]
      have asc : ∀ j, lo < j → j < m → A 3 k lo < A 3 k j := fun j q1 q2 => by
        have h9 := List.pairwise_iff_getElem.mp hs lo j (by simp [hlen]; omega) (by simp [hlen]; omega) q1
        simpa [kys, oC_get] using h9
      by_cases y : A 3 k lo = s
      · rw [if_pos y]
        refine ⟨_, rfl, ?_, fun f a j q => mu_ne _ _ (by omega), by rw [mu_ne _ _ (by omega), hm]; omega⟩
        unfold mpc
        rw [if_neg hne, if_neg (fun q => q.2 ((memk s).mpr ⟨lo, by omega, y⟩))]
        have hlo : lo < (oC A k).length := by omega
        rw [mpt_upd hlo (fun j hj q => (hin lo h4 h5 j hj).1 q) (by rw [oC_get]; exact y)]
        apply List.ext_getElem
        · rw [List.length_set, oC_len, oC_len, mu_ne _ _ (by omega)]
        · intro i hi hj
          rw [oC_get, List.getElem_set]
          rw [mu_ne _ _ (by omega)]
          by_cases q : lo = i
          · subst q
            rw [if_pos rfl, mu_at, oC_get, y]
          · rw [if_neg q, mu_ne _ _ (by omega), oC_get]
      · rw [if_neg y]
        have hlt : s < A 3 k lo := by have := h5 lo (Nat.le_refl _) (by omega); omega
        refine insW (fun q => ?_) (fun j q1 q2 => ?_)
        · obtain ⟨j, j1, j2⟩ := (memk s).mp q
          by_cases q : j < lo
          · have := h4 j q; omega
          · by_cases q2 : j = lo
            · subst q2; exact y j2
            · have := asc j (by omega) j1; omega
        · by_cases q : j = lo
          · rw [q]; exact hlt
          · have := asc j (by omega) q2; omega
  intro F
  induction F with
  | zero =>
    intro lo hi h1 h2 h3 h4 h5
    have e : hi = lo := by
      have : hi - lo < 1 := h3
      omega
    subst e
    exact fin 0 hi (by omega) h4 (fun j q1 q2 => h5 j q1 (by omega))
  | succ F ih =>
    intro lo hi h1 h2 h3 h4 h5
    by_cases e : hi = lo
    · subst e
      exact fin (F + 1) hi (by omega) h4 (fun j q1 q2 => h5 j q1 (by omega))
    · have hmid : Int.tdiv ((lo : Int) + hi) 2 = (((lo + hi) / 2 : Nat) : Int) := by
        have e9 : ((lo : Int) + hi) = ((lo + hi : Nat) : Int) := by omega
        rw [e9]
        exact (Int.ofNat_tdiv (lo + hi) 2).symm
      obtain ⟨mid, hmd⟩ : ∃ mid, mid = (lo + hi) / 2 := ⟨_, rfl⟩
      rw [← hmd] at hmid
      have b1 : lo ≤ mid := by omega
      have b2 : mid < hi := by omega
      have b3 : mid - lo < 2 ^ F := by
        have : 2 ^ (F + 1) = 2 * 2 ^ F := by rw [Nat.pow_succ]; omega
        omega
      have b4 : hi - (mid + 1) < 2 ^ F := by
        have : 2 ^ (F + 1) = 2 * 2 ^ F := by rw [Nat.pow_succ]; omega
        omega
      have t1 : ((mid : Nat) : Int).toNat = mid := by omega
      have g3 : g32 (A 3 k mid) := by have := hst mid (by omega); unfold g32; omega
      unfold f_Odds_come_16
      rw [hmid, t1]
      rw [if_pos (show g32 (lo : Int) by unfold g32; omega), if_pos (show g32 (hi : Int) by unfold g32; omega), if_neg (show ¬ (hi : Int) ≤ lo by omega), if_pos (show g32 ((lo : Int) + hi) by unfold g32; omega), if_pos (show 0 ≤ (mid : Int) ∧ (mid : Int) < ((301 : Nat) : Int) by omega), if_pos g3, if_pos gs]
      have asc : ∀ i j, i < j → j < m → A 3 k i < A 3 k j := fun i j q1 q2 => by
        have h9 := List.pairwise_iff_getElem.mp hs i j (by simp [hlen]; omega) (by simp [hlen]; omega) q1
        simpa [kys, oC_get] using h9
      by_cases y : s ≤ A 3 k mid
      · rw [if_pos y]
        exact ih lo mid b1 (by omega) b3 h4 (fun j q1 q2 => by
          by_cases q : j = mid
          · rw [q]; exact y
          · have := asc mid j (by omega) (by omega); omega)
      · rw [if_neg y]
        have e3 : ((mid : Int) + 1) = ((mid + 1 : Nat) : Int) := by omega
        rw [e3]
        exact ih (mid + 1) hi (by omega) h2 b4 (fun j q => by
          by_cases q2 : j = mid
          · rw [q2]; omega
          · have := asc j mid (by omega) (by omega); omega) h5
theorem m_come {A : mA} {k : Nat} {s w : Int} (hK : oK A k) (hs : srt (oC A k)) (gs : g32 s) (gw : g64 w) : ∃ A', f_Odds_come A k s w = some (0, A') ∧ oC A' k = mpc (oC A k) (s, w) ∧ rOd A A' k ∧ (0 ≤ A' 1 k 2 ∧ A' 1 k 2 ≤ 301) := by
  unfold f_Odds_come
  rw [if_pos gw]
  have hl : lc w 0 = 0 ↔ w = 0 := by
    unfold lc
    by_cases h : w < 0
    · rw [if_pos h]; omega
    rw [if_neg h]
    by_cases h2 : w = 0
    · rw [if_pos h2]; exact ⟨fun _ => h2, fun _ => rfl⟩
    · rw [if_neg h2]; omega
  by_cases h : w = 0
  · rw [if_pos (hl.mpr h)]
    exact ⟨A, rfl, by unfold mpc; rw [if_pos h], rOd.refl, hK.1⟩
  · rw [if_neg (fun q => h (hl.mp q))]
    have h1 := hK.1
    obtain ⟨m, hm⟩ : ∃ m : Nat, A 1 k 2 = m := ⟨(A 1 k 2).toNat, by omega⟩
    have := come_f hK hs gs h 19 0 m (Nat.zero_le _) (by omega) (by omega) (fun j q => absurd q (Nat.not_lt_zero _)) (fun j q1 q2 => by omega)
    rw [hm]
    exact this
theorem m_becomes {A : mA} {k a : Nat} (hK : 0 ≤ A 1 a 2 ∧ A 1 a 2 ≤ 301) (hne : k ≠ a) : ∃ A', f_Odds_becomes A k a = some (0, A') ∧ oC A' k = oC A a ∧ rOd A A' k ∧ A' 1 k 2 = A 1 a 2 := by
  obtain ⟨m, hm⟩ : ∃ m : Nat, A 1 a 2 = m := ⟨(A 1 a 2).toNat, by omega⟩
  unfold f_Odds_becomes
  have e1 : mcp (mu A 1 k 2 (A 1 a 2)) 3 a 0 3 k 0 ((A 1 a 2).toNat) 1 k 2 = A 1 a 2 := by rw [mcp_fk _ (by omega), mu_at]
  rw [e1, hm]
  rw [if_pos ⟨by omega, by omega, by omega, by omega, by omega⟩, if_pos ⟨by omega, by omega, by omega, by omega, by omega⟩]
  have t1 : ((m : Nat) : Int).toNat = m := by omega
  rw [t1]
  refine ⟨_, rfl, oC_cg ?_ (fun j hj => ?_), fun f b j q => ?_, ?_⟩
  · rw [mcp_fk _ (by omega), mcp_fk _ (by omega), mu_at, hm]
  · constructor
    · rw [mcp_fk _ (by omega)]
      unfold mcp
      rw [if_pos ⟨rfl, rfl, by omega, by omega⟩, mu_ne _ _ (by omega)]
      congr 1; omega
    · show (if _ then _ else _) = _
      rw [if_pos ⟨rfl, rfl, by omega, by omega⟩]
      rw [mcp_fk _ (by omega), mu_ne _ _ (by omega)]
      congr 1; omega
  · rw [mcp_fk _ (by omega), mcp_fk _ (by omega), mu_ne _ _ (by omega)]
  · rw [mcp_fk _ (by omega), mcp_fk _ (by omega), mu_at]
theorem m_all {A : mA} {k : Nat} (hK : 0 ≤ A 1 k 2 ∧ A 1 k 2 ≤ 301) : f_Odds_all A k = some (tot (oC A k), A) := by
  obtain ⟨m, hm⟩ : ∃ m : Nat, A 1 k 2 = m := ⟨(A 1 k 2).toNat, by omega⟩
  have tap : ∀ (u v : List xE), tot (u ++ v) = tot u + tot v := fun u v => by
    induction u with
    | nil => simp [tot]
    | cons q u ih => simp only [List.cons_append, tot]; rw [ih]; omega
  have go : ∀ (F i : Nat), i ≤ m → m - i < F → ∀ z, z = tot ((List.range i).map (fun j => (A 3 k j, A 4 k j))) → f_Odds_all_4 F A k z i = some (tot (oC A k), A) := by
    intro F
    induction F with
    | zero => intro i _ h; omega
    | succ F ih =>
      intro i h1 h2 z hz
      unfold f_Odds_all_4
      rw [hm, if_pos (show g32 (i : Int) by unfold g32; omega), if_pos (show g32 (m : Int) by unfold g32; omega)]
      by_cases q : m ≤ i
      · rw [if_pos (by omega), hz]
        have e : i = m := by omega
        unfold oC
        rw [hm, e]; rfl
      · rw [if_neg (by omega), if_pos (show 0 ≤ (i : Int) ∧ (i : Int) < ((301 : Nat) : Int) by omega)]
        have e3 : ((i : Int) + 1) = ((i + 1 : Nat) : Int) := by omega
        have t1 : ((i : Nat) : Int).toNat = i := by omega
        rw [e3, t1]
        refine ih (i + 1) (by omega) (by omega) _ ?_
        rw [List.range_succ, List.map_append, tap, ← hz]
        simp [tot]
  unfold f_Odds_all
  exact go 310 0 (Nat.zero_le _) (by omega) 0 (by simp [tot])
