/-! the class's mixer: like states are found by a table (own work) -/
theorem ush22 (z : Int) : 0 ≤ iUsh z 22 ∧ iUsh z 22 < 1024 := by
  have e : iUsh z 22 = ((Int32.ofInt z).toUInt32 >>> 22).toInt32.toInt := rfl
  have b : ((Int32.ofInt z).toUInt32 >>> 22).toInt32.toBitVec = (Int32.ofInt z).toBitVec >>> 22 := rfl
  have t : ((Int32.ofInt z).toBitVec >>> 22).toNat < 1024 := by
    rw [BitVec.toNat_ushiftRight, Nat.shiftRight_eq_div_pow]
    have := (Int32.ofInt z).toBitVec.isLt
    omega
  have k := i32_small b (by omega)
  rw [e, k]
  omega
theorem and1023 {x : Nat} (h : x < 1024) : iAnd ((x : Int) + 1) 1023 = (((x + 1) % 1024 : Nat) : Int) := by
  have e : iAnd ((x : Int) + 1) 1023 = (Int32.ofInt ((x : Int) + 1) &&& Int32.ofInt 1023).toInt := rfl
  have n : ((Int32.ofInt ((x : Int) + 1)).toBitVec &&& (Int32.ofInt 1023).toBitVec).toNat = (x + 1) % 1024 := by
    rw [BitVec.toNat_and, bv_of (by omega) (by omega), bv_of (by omega) (by omega)]
    have e1 : ((x : Int) + 1).toNat = x + 1 := by omega
    rw [e1]
    exact Nat.and_two_pow_sub_one_eq_mod _ 10
  have k := i32_small (z := Int32.ofInt ((x : Int) + 1) &&& Int32.ofInt 1023) (X := (Int32.ofInt ((x : Int) + 1)).toBitVec &&& (Int32.ofInt 1023).toBitVec) rfl (by rw [n]; omega)
  rw [e, k, n]
theorem pigeon : ∀ (n : Nat) (f : Nat → Nat), (∀ i, i < n + 1 → f i < n) → ∃ i j, i < j ∧ j < n + 1 ∧ f i = f j := by
  intro n
  induction n with
  | zero => intro f h; exact absurd (h 0 (by omega)) (Nat.not_lt_zero _)
  | succ n ih =>
    intro f h
    by_cases q : ∃ i, i < n + 1 ∧ f i = f (n + 1)
    · obtain ⟨i, h1, h2⟩ := q
      exact ⟨i, n + 1, h1, by omega, h2⟩
    · -- swap the value n with f (n + 1)
      obtain ⟨i, j, h1, h2, h3⟩ := ih (fun i => if f i = n then f (n + 1) else f i) (fun i hi => by
        show (if f i = n then f (n + 1) else f i) < n
        have a1 := h i (by omega)
        have a2 := h (n + 1) (by omega)
        by_cases e : f i = n
        · rw [if_pos e]
          have : f (n + 1) ≠ n := fun z => q ⟨i, hi, e.trans z.symm⟩
          omega
        · rw [if_neg e]; omega)
      refine ⟨i, j, h1, by omega, ?_⟩
      have h3 : (if f i = n then f (n + 1) else f i) = (if f j = n then f (n + 1) else f j) := h3
      by_cases e1 : f i = n
      · by_cases e2 : f j = n
        · rw [e1, e2]
        · rw [if_pos e1, if_neg e2] at h3
          exact absurd ⟨j, h2, h3.symm⟩ q
      · by_cases e2 : f j = n
        · rw [if_neg e1, if_pos e2] at h3
          exact absurd ⟨i, by omega, h3⟩ q
        · rw [if_neg e1, if_neg e2] at h3
          exact h3
def mxC (C : mA) (st wt n : Nat) : List xE := (List.range n).map (fun j => (C 31 st j, C 32 wt j))
def hsh (s : Int) : Nat := (iUsh (s * (-1640531535)) 22).toNat
def hU (C : mA) (sl hm n x : Nat) : Prop := ∃ j : Nat, j < n ∧ C 33 sl x = j ∧ C 31 hm j = x
def HT (C : mA) (st sl hm n : Nat) : Prop := ∀ i, i < n → ∃ t : Nat, C 33 sl ((hsh (C 31 st i) + t) % 1024) = i ∧ C 31 hm i = ((hsh (C 31 st i) + t) % 1024 : Nat) ∧ t < 1024 ∧ ∀ u, u < t → hU C sl hm n ((hsh (C 31 st i) + u) % 1024)
/-- what the mixer may change -/
def mxF (m st wt sl hm : Nat) (C C' : mA) : Prop := ∀ f a j, ¬ ((f = 31 ∧ (a = st ∨ a = hm)) ∨ (f = 32 ∧ a = wt) ∨ (f = 33 ∧ a = sl) ∨ (f = 1 ∧ a = m ∧ j = 2)) → C' f a j = C f a j
theorem mxC_len {C : mA} {st wt n : Nat} : (mxC C st wt n).length = n := by simp [mxC]
theorem mxC_get {C : mA} {st wt n j : Nat} (h : j < (mxC C st wt n).length) : (mxC C st wt n)[j] = (C 31 st j, C 32 wt j) := by simp [mxC]
theorem mxC_key {C : mA} {st wt n : Nat} {s : Int} : s ∈ kys (mxC C st wt n) ↔ ∃ j, j < n ∧ C 31 st j = s := by
  simp only [kys, mxC, List.map_map, List.mem_map, List.mem_range]
  exact ⟨fun ⟨j, h1, h2⟩ => ⟨j, h1, h2⟩, fun ⟨j, h1, h2⟩ => ⟨j, h1, h2⟩⟩
theorem cpt_set : ∀ {l : List xE} {x : xE} {i : Nat} (h : i < l.length), (kys l).Nodup → (l[i]).1 = x.1 → cpt l x = l.set i (x.1, (l[i]).2 + x.2)
  | [], _, _, h, _, _ => by cases h
  | y :: l, x, 0, _, _, e => by
    have e : y.1 = x.1 := e
    unfold cpt
    rw [if_pos e]
    show _ = (x.1, y.2 + x.2) :: l
    rw [e]
  | y :: l, x, i + 1, h, hn, e => by
    have e : (l[i]'(by simpa using h)).1 = x.1 := e
    have hn' := List.nodup_cons.mp hn
    have hx : x.1 ∈ kys l := by rw [← e]; exact List.mem_map.mpr ⟨_, List.getElem_mem _, rfl⟩
    unfold cpt
    rw [if_neg (fun q => hn'.1 (by show y.1 ∈ _; rw [q]; exact hx)), cpt_set (i := i) (by simpa using h) hn'.2 e]
    rfl
section MXR
variable {C : mA} {m st wt sl hm n : Nat} {s w : Int}
def mxO (C : mA) (m st wt sl hm n : Nat) : Prop := (C 1 m 0).toNat = st ∧ (C 1 m 1).toNat = wt ∧ (C 1 m 3).toNat = sl ∧ (C 1 m 4).toNat = hm ∧ C 1 m 2 = n ∧ n ≤ 300 ∧ st ≠ hm ∧ (∀ j, j < n → g32 (C 31 st j)) ∧ HT C st sl hm n ∧ (kys (mxC C st wt n)).Nodup ∧ ∀ x, x < 1024 → g32 (C 33 sl x)
/-- a new state, at a slot that is not in use -/
theorem c_putNew (h : mxO C m st wt sl hm n) (h3 : n < 300) {x : Nat} (hx : x < 1024) (gs : g32 s) (hn : ¬ s ∈ kys (mxC C st wt n)) (hu : ¬ hU C sl hm n x) {t : Nat} (ht : t < 1024) (ex : x = (hsh s + t) % 1024) (hp : ∀ u, u < t → hU C sl hm n ((hsh s + u) % 1024)) : ∃ C', f_Mixer_putNew C m s w x = some (1, C') ∧ mxF m st wt sl hm C C' ∧ mxO C' m st wt sl hm (n + 1) ∧ mxC C' st wt (n + 1) = cpt (mxC C st wt n) (s, w) := by
  obtain ⟨e0, e1, e3, e4, e2, h300, hne, hg, hT, hnd, hsl⟩ := h
  unfold f_Mixer_putNew
  have t1 : ((n : Nat) : Int).toNat = n := by omega
  have t2 : ((x : Nat) : Int).toNat = x := by omega
  rw [e2, e0, e1, e3, e4, t1, t2]
  rw [if_pos (show g32 (n : Int) by unfold g32; omega), if_pos (show (n : Int) < 300 by omega), if_pos (show 0 ≤ (n : Int) ∧ (n : Int) < ((300 : Nat) : Int) by omega), if_pos (show 0 ≤ (x : Int) ∧ (x : Int) < ((1024 : Nat) : Int) by omega)]
  obtain ⟨C', hC'⟩ : ∃ C', C' = mu (mu (mu (mu (mu C 31 st n s) 32 wt n w) 31 hm n x) 33 sl x n) 1 m 2 ((n : Int) + 1) := ⟨_, rfl⟩
  have a31 : ∀ j, C' 31 st j = if j = n then s else C 31 st j := fun j => by
    rw [hC', mu_ne _ _ (by omega), mu_ne _ _ (by omega), mu_ne _ _ (fun r => hne r.2.1), mu_ne _ _ (by omega)]
    by_cases q : j = n
    · rw [if_pos q, q, mu_at]
    · rw [if_neg q, mu_ne _ _ (by omega)]
  have a32 : ∀ j, C' 32 wt j = if j = n then w else C 32 wt j := fun j => by
    rw [hC', mu_ne _ _ (by omega), mu_ne _ _ (by omega), mu_ne _ _ (by omega)]
    by_cases q : j = n
    · rw [if_pos q, q, mu_at]
    · rw [if_neg q, mu_ne _ _ (by omega), mu_ne _ _ (by omega)]
  have ahm : ∀ j, C' 31 hm j = if j = n then (x : Int) else C 31 hm j := fun j => by
    rw [hC', mu_ne _ _ (by omega), mu_ne _ _ (by omega)]
    by_cases q : j = n
    · rw [if_pos q, q, mu_at]
    · rw [if_neg q, mu_ne _ _ (by omega), mu_ne _ _ (by omega), mu_ne _ _ (by omega)]
  have asl : ∀ j, C' 33 sl j = if j = x then (n : Int) else C 33 sl j := fun j => by
    rw [hC', mu_ne _ _ (by omega)]
    by_cases q : j = x
    · rw [if_pos q, q, mu_at]
    · rw [if_neg q, mu_ne _ _ (by omega), mu_ne _ _ (by omega), mu_ne _ _ (by omega), mu_ne _ _ (by omega)]
  have up : ∀ y, hU C sl hm n y → hU C' sl hm (n + 1) y := fun y hy => by
    by_cases q : y = x
    · exact absurd (q ▸ hy) hu
    · obtain ⟨j, j1, j2, j3⟩ := hy
      exact ⟨j, by omega, by rw [asl, if_neg q]; exact j2, by rw [ahm, if_neg (by omega)]; exact j3⟩
  have fr : mxF m st wt sl hm C C' := fun f a j q => by
    rw [hC', mu_ne _ _ (by omega), mu_ne _ _ (by omega), mu_ne _ _ (by omega), mu_ne _ _ (by omega), mu_ne _ _ (by omega)]
  have con : mxC C' st wt (n + 1) = cpt (mxC C st wt n) (s, w) := by
    rw [cpt_new hn]
    unfold mxC
    rw [List.range_succ, List.map_append]
    congr 1
    · apply List.map_congr_left
      intro j hj
      have hj := List.mem_range.mp hj
      rw [a31, a32, if_neg (by omega), if_neg (by omega)]
    · show [(_, _)] = _
      rw [a31, a32, if_pos rfl, if_pos rfl]
  refine ⟨C', by rw [hC'], fr, ⟨?_, ?_, ?_, ?_, ?_, by omega, hne, fun j hj => ?_, fun i hi => ?_, ?_, fun y hy => ?_⟩, con⟩
  · rw [fr 1 m 0 (by omega)]; exact e0
  · rw [fr 1 m 1 (by omega)]; exact e1
  · rw [fr 1 m 3 (by omega)]; exact e3
  · rw [fr 1 m 4 (by omega)]; exact e4
  · rw [hC', mu_at]; omega
  · rw [a31]
    by_cases q : j = n
    · rw [if_pos q]; exact gs
    · rw [if_neg q]; exact hg j (by omega)
  · by_cases q : i = n
    · subst q
      refine ⟨t, ?_, ?_, ht, fun u hu' => ?_⟩
      · rw [a31, if_pos rfl, ← ex, asl, if_pos rfl]
      · rw [a31, if_pos rfl, ← ex, ahm, if_pos rfl]
      · rw [a31, if_pos rfl]; exact up _ (hp u hu')
    · obtain ⟨t9, y1, y2, y3, y4⟩ := hT i (by omega)
      have hxi : (hsh (C 31 st i) + t9) % 1024 ≠ x := fun z => hu (z ▸ ⟨i, by omega, y1, y2⟩)
      refine ⟨t9, ?_, ?_, y3, fun u hu' => ?_⟩
      · rw [a31, if_neg q, asl, if_neg hxi]; exact y1
      · rw [a31, if_neg q, ahm, if_neg q]; exact y2
      · rw [a31, if_neg q]; exact up _ (y4 u hu')
  · rw [con]; exact cpt_nd hnd
  · rw [asl]
    by_cases q : y = x
    · rw [if_pos q]; unfold g32; omega
    · rw [if_neg q]; exact hsl y hy
theorem c_putFull (h : mxO C m st wt sl hm n) (h3 : n = 300) {x : Int} : f_Mixer_putNew C m s w x = some (0, C) := by
  have e2 := h.2.2.2.2.1
  unfold f_Mixer_putNew
  rw [e2, h3, if_pos (by decide), if_neg (by decide)]
theorem c_put (h : mxO C m st wt sl hm n) (gs : g32 s) : ∃ r C', f_Mixer_put C m s w = some (r, C') ∧ mxF m st wt sl hm C C' ∧ ((r = 1 ∧ ∃ n', mxO C' m st wt sl hm n' ∧ mxC C' st wt n' = cpt (mxC C st wt n) (s, w)) ∨ (r = 0 ∧ C' = C ∧ 300 < (cpt (mxC C st wt n) (s, w)).length)) := by
  have h9 := h
  obtain ⟨e0, e1, e3, e4, e2, h300, hne, hg, hT, hnd, hsl⟩ := h9
  have hsu := ush22 (s * (-1640531535))
  have hh : hsh s < 1024 := by unfold hsh; omega
  -- at a slot that is not in use
  have stop : ∀ (u : Nat) (x : Nat), u < 1024 → x = (hsh s + u) % 1024 → (∀ v, v < u → ∃ j, j < n ∧ C 33 sl ((hsh s + v) % 1024) = (j : Nat) ∧ C 31 hm j = ((hsh s + v) % 1024 : Nat) ∧ C 31 st j ≠ s) → ¬ hU C sl hm n x → ∃ r C', Option.bind (f_Mixer_putNew C m s w x) (fun q7 => (if (q7.1 = 0 ∨ q7.1 = 1) then (some (q7.1, q7.2)) else none)) = some (r, C') ∧ mxF m st wt sl hm C C' ∧ ((r = 1 ∧ ∃ n', mxO C' m st wt sl hm n' ∧ mxC C' st wt n' = cpt (mxC C st wt n) (s, w)) ∨ (r = 0 ∧ C' = C ∧ 300 < (cpt (mxC C st wt n) (s, w)).length)) := fun u x hu ex hp hx => by
    have hout : ¬ s ∈ kys (mxC C st wt n) := fun z => by
      obtain ⟨i, i1, i2⟩ := mxC_key.mp z
      obtain ⟨t, y1, y2, y3, y4⟩ := hT i i1
      rw [i2] at y1 y2 y4
      rcases Nat.lt_trichotomy u t with q | q | q
      · exact hx (by rw [ex]; exact y4 u q)
      · subst q
        exact hx (by rw [ex]; exact ⟨i, i1, y1, y2⟩)
      · obtain ⟨j, j1, j2, j3, j4⟩ := hp t q
        rw [y1] at j2
        have : i = j := by omega
        subst this
        exact j4 i2
    by_cases k : n < 300
    · obtain ⟨C', z1, z2, z3, z4⟩ := c_putNew (w := w) h k (by omega) gs hout hx hu ex (fun v hv => by
        obtain ⟨j, j1, j2, j3, -⟩ := hp v hv
        exact ⟨j, j1, j2, j3⟩)
      rw [z1, obind]
      exact ⟨1, C', by rw [if_pos (Or.inr rfl)], z2, Or.inl ⟨rfl, n + 1, z3, z4⟩⟩
    · rw [c_putFull h (by omega), obind]
      refine ⟨0, C, by rw [if_pos (Or.inl rfl)], fun _ _ _ _ => rfl, Or.inr ⟨rfl, rfl, ?_⟩⟩
      rw [cpt_len, if_neg hout, mxC_len]
      omega
  have go : ∀ (F u x : Nat), u ≤ n → n - u < F → x = (hsh s + u) % 1024 → (∀ v, v < u → ∃ j, j < n ∧ C 33 sl ((hsh s + v) % 1024) = (j : Nat) ∧ C 31 hm j = ((hsh s + v) % 1024 : Nat) ∧ C 31 st j ≠ s) → ∃ r C', f_Mixer_put_12 F C m s w x u = some (r, C') ∧ mxF m st wt sl hm C C' ∧ ((r = 1 ∧ ∃ n', mxO C' m st wt sl hm n' ∧ mxC C' st wt n' = cpt (mxC C st wt n) (s, w)) ∨ (r = 0 ∧ C' = C ∧ 300 < (cpt (mxC C st wt n) (s, w)).length)) := by
    intro F
    induction F with
    | zero => intro u x _ hF; omega
    | succ F ih =>
      intro u x h1 hF ex hp
      have hx : x < 1024 := by omega
      have t2 : ((x : Nat) : Int).toNat = x := by omega
      unfold f_Mixer_put_12
      rw [e2, e3, e4, e0, e1, t2]
      rw [if_pos (show g32 (u : Int) by unfold g32; omega), if_neg (show ¬ (1024 : Int) ≤ u by omega), if_pos (show 0 ≤ (x : Int) ∧ (x : Int) < ((1024 : Nat) : Int) by omega)]
      rw [if_pos (hsl x hx)]
      by_cases k0 : C 33 sl x < 0
      · rw [if_pos k0]
        exact stop u x (by omega) ex hp (fun ⟨j, j1, j2, j3⟩ => by omega)
      rw [if_neg k0, if_pos (show g32 (n : Int) by unfold g32; omega)]
      by_cases k1 : (n : Int) ≤ C 33 sl x
      · rw [if_pos k1]
        exact stop u x (by omega) ex hp (fun ⟨j, j1, j2, j3⟩ => by omega)
      rw [if_neg k1, if_neg (show ¬ (300 : Int) ≤ C 33 sl x by omega), if_pos (show 0 ≤ C 33 sl x ∧ C 33 sl x < ((300 : Nat) : Int) by omega)]
      obtain ⟨i, hi⟩ : ∃ i : Nat, C 33 sl x = i := ⟨(C 33 sl x).toNat, by omega⟩
      have hin : i < n := by omega
      rw [hi, Int.toNat_natCast]
      obtain ⟨t9, y1, y2, y3, y4⟩ := hT i hin
      have gh : g32 (C 31 hm i) := by rw [y2]; unfold g32; omega
      rw [if_pos gh, if_pos (show g32 (x : Int) by unfold g32; omega)]
      by_cases k2 : C 31 hm i = x
      · rw [if_pos k2, if_pos (hg i hin), if_pos gs]
        by_cases k3 : C 31 st i = s
        · rw [if_pos k3]
          have con : mxC (mu C 32 wt i (C 32 wt i + w)) st wt n = cpt (mxC C st wt n) (s, w) := by
            have hl : i < (mxC C st wt n).length := by rw [mxC_len]; exact hin
            rw [cpt_set hl hnd (by rw [mxC_get]; exact k3)]
            apply List.ext_getElem
            · rw [List.length_set, mxC_len, mxC_len]
            · intro j j1 j2
              rw [mxC_get, List.getElem_set, mu_ne _ _ (by omega)]
              by_cases q : i = j
              · subst q
                rw [if_pos rfl, mu_at, mxC_get, k3]
              · rw [if_neg q, mu_ne _ _ (by omega), mxC_get]
          have e31 : ∀ a j, mu C 32 wt i (C 32 wt i + w) 31 a j = C 31 a j := fun a j => mu_ne _ _ (by omega)
          have e33 : ∀ a j, mu C 32 wt i (C 32 wt i + w) 33 a j = C 33 a j := fun a j => mu_ne _ _ (by omega)
          have e10 : ∀ j, mu C 32 wt i (C 32 wt i + w) 1 m j = C 1 m j := fun j => mu_ne _ _ (by omega)
          refine ⟨1, _, rfl, fun f a j q => mu_ne _ _ (by omega), Or.inl ⟨rfl, n, ⟨?_, ?_, ?_, ?_, ?_, h300, hne, fun j hj => ?_, fun j hj => ?_, ?_, fun y hy => ?_⟩, con⟩⟩
          · rw [e10]; exact e0
          · rw [e10]; exact e1
          · rw [e10]; exact e3
          · rw [e10]; exact e4
          · rw [e10]; exact e2
          · rw [e31]; exact hg j hj
          · obtain ⟨t8, z1, z2, z3, z4⟩ := hT j hj
            refine ⟨t8, by rw [e31, e33]; exact z1, by rw [e31, e31]; exact z2, z3, fun v hv => ?_⟩
            rw [e31]
            obtain ⟨b, b1, b2, b3⟩ := z4 v hv
            exact ⟨b, b1, by rw [e33]; exact b2, by rw [e31]; exact b3⟩
          · rw [con]; exact cpt_nd hnd
          · rw [e33]; exact hsl y hy
        · rw [if_neg k3, and1023 hx]
          have e3' : ((u : Int) + 1) = ((u + 1 : Nat) : Int) := by omega
          rw [e3']
          have hp' : ∀ v, v < u + 1 → ∃ j, j < n ∧ C 33 sl ((hsh s + v) % 1024) = (j : Nat) ∧ C 31 hm j = ((hsh s + v) % 1024 : Nat) ∧ C 31 st j ≠ s := fun v hv => by
            by_cases q : v = u
            · subst q
              exact ⟨i, hin, by rw [← ex]; exact hi, by rw [← ex]; exact k2, k3⟩
            · exact hp v (by omega)
          have hle : u + 1 ≤ n := by
            rcases Nat.lt_or_ge u n with q | q
            · exact q
            · exfalso
              have hun : u = n := by omega
              obtain ⟨a, b, ab, bn, eab⟩ := pigeon n (fun v => (C 33 sl ((hsh s + v) % 1024)).toNat) (fun v hv => by
                obtain ⟨j, j1, j2, j3, j4⟩ := hp' v (by omega)
                show (C 33 sl ((hsh s + v) % 1024)).toNat < n
                rw [j2]; omega)
              obtain ⟨j, j1, j2, j3, j4⟩ := hp' a (by omega)
              obtain ⟨j', j1', j2', j3', j4'⟩ := hp' b (by omega)
              have eab : (C 33 sl ((hsh s + a) % 1024)).toNat = (C 33 sl ((hsh s + b) % 1024)).toNat := eab
              rw [j2, j2'] at eab
              have : j = j' := by omega
              subst this
              rw [j3] at j3'
              omega
          exact ih (u + 1) ((x + 1) % 1024) hle (by omega) (by omega) hp'
      · rw [if_neg k2]
        exact stop u x (by omega) ex hp (fun ⟨j, j1, j2, j3⟩ => by
          rw [hi] at j2
          have : i = j := by omega
          subst this
          exact k2 j3)
  have e9 : iUsh (s * (-1640531535)) 22 = ((hsh s : Nat) : Int) := by unfold hsh; omega
  unfold f_Mixer_put
  rw [e9]
  exact go 1100 0 (hsh s) (Nat.zero_le _) (by omega) (by omega) (fun v hv => absurd hv (Nat.not_lt_zero _))
end MXR
