/-! the class's crowds: begin, add, split (own work) -/
theorem CW.len {C : mA} {cr st wt : Nat} {L : List xE} (h : CW C cr st wt L) : L.length ≤ 300 := h.2.2.2.1
theorem mxC_app {C : mA} {st wt n : Nat} : mxC C st wt (n + 1) = mxC C st wt n ++ [(C 31 st n, C 32 wt n)] := by
  unfold mxC
  rw [List.range_succ, List.map_append]
  rfl
theorem c_add {C : mA} {cr sc wc : Nat} {X : List xE} {s v : Int} (h : CW C cr sc wc X) (hl : X.length < 300) (hs : vs9 s) : ∃ C', f_Crowd_add C cr s v = some (0, C') ∧ CW C' cr sc wc (X ++ [(ud s, v)]) ∧ C' = mu (mu (mu C 31 sc X.length s) 32 wc X.length v) 0 cr 2 ((X.length : Int) + 1) := by
  obtain ⟨a1, a2, a3, a4, a5, a6⟩ := h
  unfold f_Crowd_add
  rw [a3, a1, a2, Int.toNat_natCast, if_pos (show g32 ((X.length : Nat) : Int) by unfold g32; omega), if_neg (show ¬ (300 : Int) ≤ ((X.length : Nat) : Int) by omega), if_pos (show 0 ≤ ((X.length : Nat) : Int) ∧ ((X.length : Nat) : Int) < ((300 : Nat) : Int) by omega)]
  have e31 : ∀ j, j ≠ X.length → mu (mu (mu C 31 sc X.length s) 32 wc X.length v) 0 cr 2 ((X.length : Int) + 1) 31 sc j = C 31 sc j := fun j q => by rw [mu_ne _ _ (by omega), mu_ne _ _ (by omega), mu_ne _ _ (by omega)]
  have f31 : mu (mu (mu C 31 sc X.length s) 32 wc X.length v) 0 cr 2 ((X.length : Int) + 1) 31 sc X.length = s := by rw [mu_ne _ _ (by omega), mu_ne _ _ (by omega), mu_at]
  have e32 : ∀ j, j ≠ X.length → mu (mu (mu C 31 sc X.length s) 32 wc X.length v) 0 cr 2 ((X.length : Int) + 1) 32 wc j = C 32 wc j := fun j q => by rw [mu_ne _ _ (by omega), mu_ne _ _ (by omega), mu_ne _ _ (by omega)]
  have f32 : mu (mu (mu C 31 sc X.length s) 32 wc X.length v) 0 cr 2 ((X.length : Int) + 1) 32 wc X.length = v := by rw [mu_ne _ _ (by omega), mu_at]
  have hl9 : (X ++ [(ud s, v)]).length = X.length + 1 := by rw [List.length_append]; rfl
  refine ⟨_, rfl, ⟨?_, ?_, ?_, by omega, fun j hj => ?_, ?_⟩, rfl⟩
  · rw [mu_ne _ _ (by omega), mu_ne _ _ (by omega), mu_ne _ _ (by omega)]; exact a1
  · rw [mu_ne _ _ (by omega), mu_ne _ _ (by omega), mu_ne _ _ (by omega)]; exact a2
  · rw [mu_at, hl9]; omega
  · by_cases q : j = X.length
    · rw [q, f31]; exact hs
    · rw [e31 j q]; exact a5 j (by omega)
  · rw [hl9, mxC_app, List.map_append, mxC_cg (C := C) (fun j hj => ⟨e31 j (by omega), e32 j (by omega)⟩), a6, f31, f32]
    rfl
theorem CW.nil {C : mA} {cr sc wc : Nat} (h0 : (C 0 cr 0).toNat = sc) (h1 : (C 0 cr 1).toNat = wc) (h2 : C 0 cr 2 = 0) : CW C cr sc wc [] := ⟨h0, h1, h2, Nat.zero_le _, fun j hj => absurd hj (Nat.not_lt_zero _), rfl⟩
/-- a crowd of one state -/
theorem c_crB {C : mA} {cr sc wc : Nat} {s : Int} (h0 : (C 0 cr 0).toNat = sc) (h1 : (C 0 cr 1).toNat = wc) (hs : vs9 s) : ∃ C', f_Crowd_begin C cr s = some (0, C') ∧ CW C' cr sc wc [(ud s, 1125899906842624)] ∧ C' 0 cr 3 = 1 ∧ ∀ f a j, ¬ ((f = 31 ∧ a = sc) ∨ (f = 32 ∧ a = wc) ∨ (f = 0 ∧ a = cr ∧ (j = 2 ∨ j = 3))) → C' f a j = C f a j := by
  have hn : CW (mu C 0 cr 2 0) cr sc wc [] := CW.nil (by rw [mu_ne _ _ (by omega)]; exact h0) (by rw [mu_ne _ _ (by omega)]; exact h1) (mu_at _ _ _ _ _)
  obtain ⟨C1, b1, b2, b3⟩ := c_add (s := s) (v := 1125899906842624) hn (by decide) hs
  unfold f_Crowd_begin
  rw [b1, obind]
  refine ⟨_, rfl, b2.cg (fun j hj => mu_ne _ _ (by omega)) (fun j _ => mu_ne _ _ (by omega)) (fun j _ => mu_ne _ _ (by omega)), mu_at _ _ _ _ _, fun f a j q => ?_⟩
  rw [mu_ne _ _ (by omega)]
  show C1 f a j = _
  rw [b3, mu_ne _ _ (by omega), mu_ne _ _ (by omega), mu_ne _ _ (by omega), mu_ne _ _ (by omega)]
section SPL
variable {C0 A : mA} {P pr i cr o sc wc so wo sp w : Nat} {e : kS} {L : List xE}
theorem c_split (hP : P < 6) (hC : cS9 C0 pr i e) (hA : mS9 A P i e) (k0 : sK e ≠ 0) (k4 : sK e ≠ 4) (hsp : (C0 2 pr 7).toNat = sp) (hc : CW C0 cr sc wc L) (ho0 : (C0 0 o 0).toNat = so) (ho1 : (C0 0 o 1).toNat = wo) (q0 : o ≠ cr) (q1 : so ≠ sc) (q2 : wo ≠ wc) : ∃ C', f_Walk_split C0 w pr (sAd C0 pr i) cr o = some (0, C') ∧ CW C' cr sc wc (L.filter (fun q => xv e q.1 != 0)) ∧ CW C' o so wo (L.filter (fun q => !(xv e q.1 != 0))) ∧ C' 0 o 3 = 0 ∧ C' 0 cr 3 = C0 0 cr 3 ∧ ∀ f a j, ¬ ((f = 31 ∧ (a = sc ∨ a = so)) ∨ (f = 32 ∧ (a = wc ∨ a = wo)) ∨ (f = 0 ∧ (a = cr ∨ a = o) ∧ (j = 2 ∨ j = 3)) ∨ (f = 37 ∧ a = sp)) → C' f a j = C0 f a j := by
  have h4 := hc.len
  have go : ∀ (F j : Nat) (C : mA), j ≤ L.length → L.length - j < F → CW C cr sc wc ((L.take j).filter (fun q => xv e q.1 != 0)) → CW C o so wo ((L.take j).filter (fun q => !(xv e q.1 != 0))) → C 0 o 3 = 0 → C 0 cr 3 = C0 0 cr 3 → (∀ k, j ≤ k → C 31 sc k = C0 31 sc k ∧ C 32 wc k = C0 32 wc k) → (∀ f a j, ¬ ((f = 31 ∧ (a = sc ∨ a = so)) ∨ (f = 32 ∧ (a = wc ∨ a = wo)) ∨ (f = 0 ∧ (a = cr ∨ a = o) ∧ (j = 2 ∨ j = 3)) ∨ (f = 37 ∧ a = sp)) → C f a j = C0 f a j) → ∃ C', f_Walk_split_26 F C pr (sAd C0 pr i) cr o L.length j = some (0, C') ∧ CW C' cr sc wc (L.filter (fun q => xv e q.1 != 0)) ∧ CW C' o so wo (L.filter (fun q => !(xv e q.1 != 0))) ∧ C' 0 o 3 = 0 ∧ C' 0 cr 3 = C0 0 cr 3 ∧ ∀ f a j, ¬ ((f = 31 ∧ (a = sc ∨ a = so)) ∨ (f = 32 ∧ (a = wc ∨ a = wo)) ∨ (f = 0 ∧ (a = cr ∨ a = o) ∧ (j = 2 ∨ j = 3)) ∨ (f = 37 ∧ a = sp)) → C' f a j = C0 f a j := by
    intro F
    induction F with
    | zero => intro j C _ h; omega
    | succ F ih =>
      intro j C h1 h2 ha hb hc3 hd hk hf
      unfold f_Walk_split_26
      rw [if_pos (show g32 (j : Int) by unfold g32; omega), if_pos (show g32 ((L.length : Nat) : Int) by unfold g32; omega)]
      by_cases z : L.length ≤ j
      · rw [if_pos (show ((L.length : Nat) : Int) ≤ j by omega)]
        rw [List.take_of_length_le z] at ha hb
        exact ⟨C, rfl, ha, hb, hc3, hd, hf⟩
      · have hj : j < L.length := by omega
        rw [if_neg (show ¬ ((L.length : Nat) : Int) ≤ j by omega), if_neg (show ¬ (300 : Int) ≤ j by omega), if_pos (show 0 ≤ (j : Int) ∧ (j : Int) < ((300 : Nat) : Int) by omega), Int.toNat_natCast, ha.1, (hk j (Nat.le_refl _)).1]
        obtain ⟨v1, v2⟩ := hc.at hj
        obtain ⟨hCs, es⟩ := hC.fr (C' := C) (fun f a j q => hf f a j (by omega))
        obtain ⟨C1, x1, x2⟩ := c_xv hP hCs hA k0 k4 v2 v2.tn
        have gx : g32 (xv e (ud (C0 31 sc j))) := (m_xv hP hA k0 k4 v2.tn).2.1
        rw [es] at x1
        rw [x1, obind]
        have x2' : stk sp C C1 0 := by
          have : (C 2 pr 7).toNat = sp := by rw [hf 2 pr 7 (by omega)]; exact hsp
          rwa [this] at x2
        have e3 : ((j : Int) + 1) = ((j + 1 : Nat) : Int) := by omega
        have ha1 := ha.cg (C' := C1) (fun k _ => x2' 0 cr k (by omega)) (fun k _ => x2' 31 sc k (by omega)) (fun k _ => x2' 32 wc k (by omega))
        have hb1 := hb.cg (C' := C1) (fun k _ => x2' 0 o k (by omega)) (fun k _ => x2' 31 so k (by omega)) (fun k _ => x2' 32 wo k (by omega))
        have r31 : C1 31 sc j = C0 31 sc j := (x2' 31 sc j (by omega)).trans (hk j (Nat.le_refl _)).1
        have r32 : C1 32 wc j = C0 32 wc j := (x2' 32 wc j (by omega)).trans (hk j (Nat.le_refl _)).2
        have l1 : ((L.take j).filter (fun q => xv e q.1 != 0)).length ≤ j := Nat.le_trans (List.length_filter_le _ _) (by rw [List.length_take]; omega)
        have l2 : ((L.take j).filter (fun q => !(xv e q.1 != 0))).length ≤ j := Nat.le_trans (List.length_filter_le _ _) (by rw [List.length_take]; omega)
        have ej : L[j] = (ud (C0 31 sc j), C0 32 wc j) := v1
        show ∃ C', (if g32 (xv e (ud (C0 31 sc j))) then (if xv e (ud (C0 31 sc j)) = 0 then (Option.bind (f_Crowd_add C1 o (C1 31 ((C1 0 cr 0).toNat) j) (C1 32 ((C1 0 cr 1).toNat) j)) (fun q13 => (f_Walk_split_26 F q13.2 pr (sAd C0 pr i) cr o L.length ((j : Int) + 1)))) else (Option.bind (f_Crowd_add C1 cr (C1 31 ((C1 0 cr 0).toNat) j) (C1 32 ((C1 0 cr 1).toNat) j)) (fun q17 => (f_Walk_split_26 F q17.2 pr (sAd C0 pr i) cr o L.length ((j : Int) + 1))))) else none) = _ ∧ _
        rw [if_pos gx, ha1.1, ha1.2.1, r31, r32, e3]
        by_cases kx : xv e (ud (C0 31 sc j)) = 0
        · rw [if_pos kx]
          obtain ⟨C2, b1, b2, b3⟩ := c_add (v := C0 32 wc j) hb1 (by omega) v2
          rw [b1, obind]
          have fj1 : [L[j]].filter (fun q => xv e q.1 != 0) = [] := by rw [ej]; simp [kx]
          have fj2 : [L[j]].filter (fun q => !(xv e q.1 != 0)) = [(ud (C0 31 sc j), C0 32 wc j)] := by rw [ej]; simp [kx]
          refine ih (j + 1) C2 hj (by omega) ?_ ?_ ?_ ?_ (fun k hk' => ?_) (fun f a k q => ?_)
          · rw [take_s hj, List.filter_append, fj1, List.append_nil]
            exact ha1.cg (fun k hk' => by rw [b3, mu_ne _ _ (by omega), mu_ne _ _ (by omega), mu_ne _ _ (by omega)]) (fun k _ => by rw [b3, mu_ne _ _ (by omega), mu_ne _ _ (by omega), mu_ne _ _ (by omega)]) (fun k _ => by rw [b3, mu_ne _ _ (by omega), mu_ne _ _ (by omega), mu_ne _ _ (by omega)])
          · rw [take_s hj, List.filter_append, fj2]
            exact b2
          · rw [b3, mu_ne _ _ (by omega), mu_ne _ _ (by omega), mu_ne _ _ (by omega), x2' 0 o 3 (by omega)]; exact hc3
          · rw [b3, mu_ne _ _ (by omega), mu_ne _ _ (by omega), mu_ne _ _ (by omega), x2' 0 cr 3 (by omega)]; exact hd
          · rw [b3, mu_ne _ _ (by omega), mu_ne _ _ (by omega), mu_ne _ _ (by omega), mu_ne _ _ (by omega), mu_ne _ _ (by omega), mu_ne _ _ (by omega), x2' 31 sc k (by omega), x2' 32 wc k (by omega)]
            exact hk k (by omega)
          · rw [b3, mu_ne _ _ (by omega), mu_ne _ _ (by omega), mu_ne _ _ (by omega), x2' f a k (by omega)]
            exact hf f a k q
        · rw [if_neg kx]
          obtain ⟨C2, b1, b2, b3⟩ := c_add (v := C0 32 wc j) ha1 (by omega) v2
          rw [b1, obind]
          have fj1 : [L[j]].filter (fun q => xv e q.1 != 0) = [(ud (C0 31 sc j), C0 32 wc j)] := by rw [ej]; simp [kx]
          have fj2 : [L[j]].filter (fun q => !(xv e q.1 != 0)) = [] := by rw [ej]; simp [kx]
          refine ih (j + 1) C2 hj (by omega) ?_ ?_ ?_ ?_ (fun k hk' => ?_) (fun f a k q => ?_)
          · rw [take_s hj, List.filter_append, fj1]
            exact b2
          · rw [take_s hj, List.filter_append, fj2, List.append_nil]
            exact hb1.cg (fun k hk' => by rw [b3, mu_ne _ _ (by omega), mu_ne _ _ (by omega), mu_ne _ _ (by omega)]) (fun k _ => by rw [b3, mu_ne _ _ (by omega), mu_ne _ _ (by omega), mu_ne _ _ (by omega)]) (fun k _ => by rw [b3, mu_ne _ _ (by omega), mu_ne _ _ (by omega), mu_ne _ _ (by omega)])
          · rw [b3, mu_ne _ _ (by omega), mu_ne _ _ (by omega), mu_ne _ _ (by omega), x2' 0 o 3 (by omega)]; exact hc3
          · rw [b3, mu_ne _ _ (by omega), mu_ne _ _ (by omega), mu_ne _ _ (by omega), x2' 0 cr 3 (by omega)]; exact hd
          · rw [b3, mu_ne _ _ (by omega), mu_ne _ _ (by omega), mu_ne _ _ (by omega), mu_ne _ _ (by omega), mu_ne _ _ (by omega), mu_ne _ _ (by omega), x2' 31 sc k (by omega), x2' 32 wc k (by omega)]
            exact hk k (by omega)
          · rw [b3, mu_ne _ _ (by omega), mu_ne _ _ (by omega), mu_ne _ _ (by omega), x2' f a k (by omega)]
            exact hf f a k q
  unfold f_Walk_split
  rw [hc.2.2.1]
  have t1 : ∀ f a j, ¬ (f = 0 ∧ (a = cr ∨ a = o) ∧ (j = 2 ∨ j = 3)) → mu (mu (mu C0 0 cr 2 0) 0 o 2 0) 0 o 3 0 f a j = C0 f a j := fun f a j q => by rw [mu_ne _ _ (by omega), mu_ne _ _ (by omega), mu_ne _ _ (by omega)]
  refine go 400 0 _ (Nat.zero_le _) (by omega) ?_ ?_ (mu_at _ _ _ _ _) ?_ (fun k _ => ⟨t1 31 sc k (by omega), t1 32 wc k (by omega)⟩) (fun f a j q => t1 f a j (by omega))
  · rw [List.take_zero]
    refine CW.nil (by rw [t1 0 cr 0 (by omega)]; exact hc.1) (by rw [t1 0 cr 1 (by omega)]; exact hc.2.1) ?_
    rw [mu_ne _ _ (by omega), mu_ne _ _ (by omega), mu_at]
  · rw [List.take_zero]
    refine CW.nil (by rw [t1 0 o 0 (by omega)]; exact ho0) (by rw [t1 0 o 1 (by omega)]; exact ho1) ?_
    rw [mu_ne _ _ (by omega), mu_at]
  · rw [mu_ne _ _ (by omega), mu_ne _ _ (by omega), mu_ne _ _ (by omega)]
end SPL
