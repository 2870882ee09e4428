/-! crowds and mixer by content, in the reference's states (own work) -/
def ud (s : Int) : Int := dsum (nb9 s)
def vs9 (s : Int) : Prop := st9 s (nb9 s)
theorem vs9.of {s : Int} {d : Nat → Int} (h : st9 s d) : vs9 s := h.cg (fun j hj => (h.2 j hj).1)
theorem dsum_cg {d d' : Nat → Int} (h : ∀ j, j < 6 → d j = d' j) : dsum d = dsum d' := by
  unfold dsum
  rw [h 0 (by decide), h 1 (by decide), h 2 (by decide), h 3 (by decide), h 4 (by decide), h 5 (by decide)]
theorem vs9.tn {s : Int} (h : vs9 s) : tn9 (ud s) (nb9 s) := tn9_sum (fun j hj => (h.2 j hj).2)
theorem vs9.g {s : Int} (h : vs9 s) : g32 s := by have := h.1; unfold g32; omega
theorem ud_inj {s s' : Int} (h : vs9 s) (h' : vs9 s') (e : ud s = ud s') : s = s' := by
  refine h.ext (h'.cg (fun j hj => ?_))
  have a := (h.tn.2 j hj).1
  have b := (h'.tn.2 j hj).1
  rw [← a, ← b, e]
theorem wd_ud {s n v : Int} (h : vs9 s) (hn : 0 ≤ n ∧ n < 6) (hv : 0 ≤ v ∧ v ≤ 9) : vs9 (wd s n v) ∧ ud (wd s n v) = wth (ud s) n.toNat v := by
  have k := st9_wd h hn hv
  refine ⟨vs9.of k, ?_⟩
  unfold ud wth
  refine dsum_cg (fun j hj => ?_)
  rw [(k.2 j hj).1]
  show (if j = n.toNat then v else nb9 s j) = (if j = n.toNat then v else dd (ud s) j)
  by_cases q : j = n.toNat
  · rw [if_pos q, if_pos q]
  · rw [if_neg q, if_neg q]
    exact (h.tn.2 j hj).1.symm
def udp (q : xE) : xE := (ud q.1, q.2)
theorem cpt_ud {l : List xE} {s w : Int} (hl : ∀ a ∈ kys l, vs9 a) (hs : vs9 s) : (cpt l (s, w)).map udp = cpt (l.map udp) (ud s, w) := by
  induction l with
  | nil => rfl
  | cons y l ih =>
    have hy : vs9 y.1 := hl y.1 List.mem_cons_self
    unfold cpt
    by_cases k : y.1 = s
    · rw [if_pos k]
      show _ = if ud y.1 = ud s then _ else _
      rw [if_pos (by rw [k])]
      rfl
    · rw [if_neg k]
      show _ = if ud y.1 = ud s then _ else _
      rw [if_neg (fun e => k (ud_inj hy hs e)), List.map_cons, ih (fun a ha => hl a (List.mem_cons_of_mem _ ha))]
/-- the mixer holds what came so far -/
def MX (C : mA) (m st wt sl hm : Nat) (X : List xE) : Prop := ∃ n, mxO C m st wt sl hm n ∧ (∀ j, j < n → vs9 (C 31 st j)) ∧ (mxC C st wt n).map udp = col [] X
theorem MX.put {C : mA} {m st wt sl hm : Nat} {X : List xE} {s w : Int} (h : MX C m st wt sl hm X) (hs : vs9 s) : ∃ r C', f_Mixer_put C m s w = some (r, C') ∧ mxF m st wt sl hm C C' ∧ ((r = 1 ∧ MX C' m st wt sl hm (X ++ [(ud s, w)])) ∨ (r = 0 ∧ C' = C ∧ 300 < (col [] (X ++ [(ud s, w)])).length)) := by
  obtain ⟨n, h1, h2, h3⟩ := h
  have hk : ∀ a ∈ kys (mxC C st wt n), vs9 a := fun a ha => by
    obtain ⟨j, j1, j2⟩ := mxC_key.mp ha
    rw [← j2]; exact h2 j j1
  have e : col [] (X ++ [(ud s, w)]) = (cpt (mxC C st wt n) (s, w)).map udp := by
    rw [col_app, ← h3, cpt_ud hk hs]
    rfl
  obtain ⟨r, C', a1, a2, ⟨a3, n', a4, a5⟩ | ⟨a3, a4, a5⟩⟩ := c_put (w := w) h1 hs.g
  · refine ⟨r, C', a1, a2, Or.inl ⟨a3, n', a4, fun j hj => ?_, by rw [a5, e]⟩⟩
    have hm : C' 31 st j ∈ kys (mxC C' st wt n') := mxC_key.mpr ⟨j, hj, rfl⟩
    rw [a5, cpt_kys] at hm
    by_cases q : s ∈ kys (mxC C st wt n)
    · rw [if_pos q] at hm
      exact hk _ hm
    · rw [if_neg q] at hm
      rcases List.mem_append.mp hm with z | z
      · exact hk _ z
      · have : C' 31 st j = s := by simpa using z
        rw [this]; exact hs
  · exact ⟨r, C', a1, a2, Or.inr ⟨a3, a4, by rw [e, List.length_map]; exact a5⟩⟩
/-- a crowd's content -/
def CW (C : mA) (cr st wt : Nat) (L : List xE) : Prop := (C 0 cr 0).toNat = st ∧ (C 0 cr 1).toNat = wt ∧ C 0 cr 2 = ((L.length : Nat) : Int) ∧ L.length ≤ 300 ∧ (∀ j, j < L.length → vs9 (C 31 st j)) ∧ (mxC C st wt L.length).map udp = L
theorem CW.at {C : mA} {cr st wt i : Nat} {L : List xE} (h : CW C cr st wt L) (hi : i < L.length) : L[i] = (ud (C 31 st i), C 32 wt i) ∧ vs9 (C 31 st i) := by
  obtain ⟨h1, h2, h3, h4, h5, h6⟩ := h
  refine ⟨?_, h5 i hi⟩
  have e : ((mxC C st wt L.length).map udp)[i]? = some (ud (C 31 st i), C 32 wt i) := by
    rw [List.getElem?_map, List.getElem?_eq_getElem (by rw [mxC_len]; exact hi), mxC_get]
    rfl
  rw [h6, List.getElem?_eq_getElem hi] at e
  exact Option.some.inj e
theorem mxC_cg {C C' : mA} {st wt n : Nat} (h : ∀ j, j < n → C' 31 st j = C 31 st j ∧ C' 32 wt j = C 32 wt j) : mxC C' st wt n = mxC C st wt n := by
  unfold mxC
  apply List.map_congr_left
  intro j hj
  have hj := List.mem_range.mp hj
  rw [(h j hj).1, (h j hj).2]
theorem CW.cg {C C' : mA} {cr st wt : Nat} {L : List xE} (h : CW C cr st wt L) (h0 : ∀ j, j < 3 → C' 0 cr j = C 0 cr j) (h1 : ∀ j, j < L.length → C' 31 st j = C 31 st j) (h2 : ∀ j, j < L.length → C' 32 wt j = C 32 wt j) : CW C' cr st wt L := by
  obtain ⟨a1, a2, a3, a4, a5, a6⟩ := h
  refine ⟨by rw [h0 0 (by decide)]; exact a1, by rw [h0 1 (by decide)]; exact a2, by rw [h0 2 (by decide)]; exact a3, a4, fun j hj => by rw [h1 j hj]; exact a5 j hj, ?_⟩
  rw [mxC_cg (fun j hj => ⟨h1 j hj, h2 j hj⟩)]
  exact a6
theorem mxO.cg {C C' : mA} {m st wt sl hm n : Nat} (h : mxO C m st wt sl hm n) (h1 : ∀ j, j < 5 → C' 1 m j = C 1 m j) (h31 : ∀ j, C' 31 st j = C 31 st j ∧ C' 31 hm j = C 31 hm j) (h32 : ∀ j, C' 32 wt j = C 32 wt j) (h33 : ∀ j, C' 33 sl j = C 33 sl j) : mxO C' m st wt sl hm n := by
  obtain ⟨e0, e1, e3, e4, e2, h300, hne, hg, hT, hnd, hsl⟩ := h
  refine ⟨by rw [h1 0 (by decide)]; exact e0, by rw [h1 1 (by decide)]; exact e1, by rw [h1 3 (by decide)]; exact e3, by rw [h1 4 (by decide)]; exact e4, by rw [h1 2 (by decide)]; exact e2, h300, hne, fun j hj => by rw [(h31 j).1]; exact hg j hj, fun i hi => ?_, by rw [mxC_cg (fun j hj => ⟨(h31 j).1, h32 j⟩)]; exact hnd, fun x hx => by rw [h33]; exact hsl x hx⟩
  obtain ⟨t, y1, y2, y3, y4⟩ := hT i hi
  refine ⟨t, by rw [(h31 i).1, h33]; exact y1, by rw [(h31 i).1, (h31 i).2]; exact y2, y3, fun u hu => ?_⟩
  rw [(h31 i).1]
  obtain ⟨j, j1, j2, j3⟩ := y4 u hu
  exact ⟨j, j1, by rw [h33]; exact j2, by rw [(h31 j).2]; exact j3⟩
theorem MX.cg {C C' : mA} {m st wt sl hm : Nat} {X : List xE} (h : MX C m st wt sl hm X) (h1 : ∀ j, j < 5 → C' 1 m j = C 1 m j) (h31 : ∀ j, C' 31 st j = C 31 st j ∧ C' 31 hm j = C 31 hm j) (h32 : ∀ j, C' 32 wt j = C 32 wt j) (h33 : ∀ j, C' 33 sl j = C 33 sl j) : MX C' m st wt sl hm X := by
  obtain ⟨n, a1, a2, a3⟩ := h
  refine ⟨n, a1.cg h1 h31 h32 h33, fun j hj => by rw [(h31 j).1]; exact a2 j hj, ?_⟩
  rw [mxC_cg (fun j hj => ⟨(h31 j).1, h32 j⟩)]
  exact a3
/-- mixer and one crowd, apart -/
def mx0 (C : mA) (m st wt sl hm : Nat) : Prop := (C 1 m 0).toNat = st ∧ (C 1 m 1).toNat = wt ∧ (C 1 m 3).toNat = sl ∧ (C 1 m 4).toNat = hm ∧ st ≠ hm ∧ ∀ x, x < 1024 → g32 (C 33 sl x)
theorem c_clear {C : mA} {m st wt sl hm : Nat} (h : mx0 C m st wt sl hm) : ∃ C', f_Mixer_clear C m = some (0, C') ∧ mxF m st wt sl hm C C' ∧ MX C' m st wt sl hm [] := by
  obtain ⟨e0, e1, e3, e4, hne, hsl⟩ := h
  have k : ∀ j, j ≠ 2 → mu C 1 m 2 0 1 m j = C 1 m j := fun j hj => mu_ne _ _ (by omega)
  refine ⟨_, rfl, fun f a j q => mu_ne _ _ (by omega), 0, ⟨by rw [k 0 (by decide)]; exact e0, by rw [k 1 (by decide)]; exact e1, by rw [k 3 (by decide)]; exact e3, by rw [k 4 (by decide)]; exact e4, mu_at _ _ _ _ _, Nat.zero_le _, hne, fun j hj => absurd hj (Nat.not_lt_zero _), fun j hj => absurd hj (Nat.not_lt_zero _), List.nodup_nil, fun x hx => ?_⟩, fun j hj => absurd hj (Nat.not_lt_zero _), rfl⟩
  rw [mu_ne _ _ (by omega)]
  exact hsl x hx
/-- what is in the mixer becomes the crowd -/
theorem c_pour {C : mA} {m st wt sl hm cr sc wc : Nat} {X : List xE} (h : MX C m st wt sl hm X) (h0 : (C 0 cr 0).toNat = sc) (h1 : (C 0 cr 1).toNat = wc) (g3 : g32 (C 0 cr 3)) (hs : sc ≠ hm) : ∃ C', f_Mixer_pourInto C m cr = some (0, C') ∧ (∀ f a j, ¬ ((f = 0 ∧ a = cr ∧ j < 4) ∨ (f = 1 ∧ a = m ∧ j < 3)) → C' f a j = C f a j) ∧ CW C' cr st wt (col [] X) ∧ mx0 C' m sc wc sl hm ∧ g32 (C' 0 cr 3) := by
  obtain ⟨n, ⟨e0, e1, e3, e4, e2, h300, hne, hg, hT, hnd, hsl⟩, a2, a3⟩ := h
  have hl : (col [] X).length = n := by rw [← a3, List.length_map, mxC_len]
  unfold f_Mixer_pourInto
  rw [e0, e1, e2, h0, h1, if_pos g3, if_pos (show g32 (n : Int) by unfold g32; omega)]
  obtain ⟨C', hC'⟩ : ∃ C', C' = mu (mu (mu (mu (mu (mu (mu C 0 cr 0 ((st : Nat) : Int)) 0 cr 1 ((wt : Nat) : Int)) 0 cr 2 ((n : Nat) : Int)) 0 cr 3 (max (C 0 cr 3) (n : Int))) 1 m 0 ((sc : Nat) : Int)) 1 m 1 ((wc : Nat) : Int)) 1 m 2 0 := ⟨_, rfl⟩
  have fr : ∀ f a j, ¬ ((f = 0 ∧ a = cr ∧ j < 4) ∨ (f = 1 ∧ a = m ∧ j < 3)) → C' f a j = C f a j := fun f a j q => by
    rw [hC', mu_ne _ _ (by omega), mu_ne _ _ (by omega), mu_ne _ _ (by omega), mu_ne _ _ (by omega), mu_ne _ _ (by omega), mu_ne _ _ (by omega), mu_ne _ _ (by omega)]
  have c3 : C' 0 cr 3 = max (C 0 cr 3) (n : Int) := by rw [hC', mu_ne _ _ (by omega), mu_ne _ _ (by omega), mu_ne _ _ (by omega), mu_at]
  refine ⟨C', by rw [hC'], fr, ⟨?_, ?_, ?_, by rw [hl]; exact h300, fun j hj => ?_, ?_⟩, ⟨?_, ?_, ?_, ?_, hs, fun x hx => ?_⟩, ?_⟩
  · rw [hC', mu_ne _ _ (by omega), mu_ne _ _ (by omega), mu_ne _ _ (by omega), mu_ne _ _ (by omega), mu_ne _ _ (by omega), mu_ne _ _ (by omega), mu_at, Int.toNat_natCast]
  · rw [hC', mu_ne _ _ (by omega), mu_ne _ _ (by omega), mu_ne _ _ (by omega), mu_ne _ _ (by omega), mu_ne _ _ (by omega), mu_at, Int.toNat_natCast]
  · rw [hl, hC', mu_ne _ _ (by omega), mu_ne _ _ (by omega), mu_ne _ _ (by omega), mu_ne _ _ (by omega), mu_at]
  · rw [fr 31 st j (by omega)]; exact a2 j (by omega)
  · rw [hl, mxC_cg (fun j _ => ⟨fr 31 st j (by omega), fr 32 wt j (by omega)⟩)]; exact a3
  · rw [hC', mu_ne _ _ (by omega), mu_ne _ _ (by omega), mu_at, Int.toNat_natCast]
  · rw [hC', mu_ne _ _ (by omega), mu_at, Int.toNat_natCast]
  · rw [fr 1 m 3 (by omega)]; exact e3
  · rw [fr 1 m 4 (by omega)]; exact e4
  · rw [fr 33 sl x (by omega)]; exact hsl x hx
  · rw [c3]; unfold g32 at *; omega
