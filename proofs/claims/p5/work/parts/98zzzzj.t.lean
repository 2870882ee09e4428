/-! odds of the reference: what draw, let and split make (own work) -/
theorem tn9_r {t : Int} (h : 0 ≤ t ∧ t ≤ 999999) : tn9 t (dd t) := ⟨h, fun j _ => ⟨rfl, by unfold dd; split <;> omega⟩⟩
theorem m_wth {A : mA} {t n v : Int} (h : 0 ≤ t ∧ t ≤ 999999) (hn : 0 ≤ n ∧ n < 6) (hv : 0 ≤ v ∧ v ≤ 9) : f_Mo_with A t n v = some (wth t n.toNat v, A) := by
  obtain ⟨t', h1, h2⟩ := m_with (A := A) (tn9_r h) hn hv
  rw [h1, h2.sum]
  rfl
/-- odds that are in order -/
def oQ (A : mA) (k : Nat) : Prop := (0 ≤ A 1 k 2 ∧ A 1 k 2 ≤ 301) ∧ (∀ q ∈ oC A k, 0 ≤ q.1 ∧ q.1 ≤ 999999) ∧ srt (oC A k)
theorem oQ.oK {A : mA} {k : Nat} (h : oQ A k) : oK A k := ⟨h.1, fun j hj => by
  have hl : j < (oC A k).length := by rw [oC_len]; have := h.1; omega
  have := h.2.1 _ (List.getElem_mem hl)
  rw [oC_get] at this
  exact this⟩
theorem mpc_mem {l : List xE} {x : xE} (hl : ∀ q ∈ l, 0 ≤ q.1 ∧ q.1 ≤ 999999) (hx : 0 ≤ x.1 ∧ x.1 ≤ 999999) : ∀ q ∈ mpc l x, 0 ≤ q.1 ∧ q.1 ≤ 999999 := fun q hq => by
  unfold mpc at hq
  split at hq
  · exact hl q hq
  · split at hq
    · exact hl q hq
    · have hk : q.1 ∈ kys (mpt l x) := List.mem_map.mpr ⟨q, hq, rfl⟩
      rcases mpt_key.mp hk with e | e
      · rw [e]; exact hx
      · obtain ⟨y, y1, y2⟩ := List.mem_map.mp e
        have := hl y y1
        rw [← y2]
        exact this
theorem mpc_srt {l : List xE} {x : xE} (h : srt l) : srt (mpc l x) := by
  unfold mpc
  split
  · exact h
  · split
    · exact h
    · exact mpt_srt h
/-- one comes to odds in order -/
theorem o_come {A : mA} {k : Nat} {s w : Int} (h : oQ A k) (hs : 0 ≤ s ∧ s ≤ 999999) (gw : g64 w) : ∃ A', f_Odds_come A k s w = some (0, A') ∧ oC A' k = mpc (oC A k) (s, w) ∧ rOd A A' k ∧ oQ A' k := by
  obtain ⟨A', h1, h2, h3, h4⟩ := m_come h.oK h.2.2 (show g32 s by unfold g32; omega) gw
  refine ⟨A', h1, h2, h3, h4, ?_, ?_⟩
  · rw [h2]; exact mpc_mem h.2.1 hs
  · rw [h2]; exact mpc_srt h.2.2
/-- odds of the pool that are in use stay, as do all tables -/
def pF (u : Nat) (A A' : mA) : Prop := ∀ f a j, ¬ ((f = 0 ∧ a = 0 ∧ j = 33) ∨ ((f = 1 ∨ f = 3 ∨ f = 4) ∧ u ≤ a)) → A' f a j = A f a j
theorem pF.refl {u : Nat} {A : mA} : pF u A A := fun _ _ _ _ => rfl
theorem pF.trans {u : Nat} {A A' A'' : mA} (h : pF u A A') (h' : pF u A' A'') : pF u A A'' := fun f a j q => (h' f a j q).trans (h f a j q)
theorem pF.up {u u' : Nat} {A A' : mA} (h : pF u' A A') (hu : u ≤ u') : pF u A A' := fun f a j q => h f a j (by omega)
theorem pF.r {u k : Nat} {A A' : mA} (h : rOd A A' k) (hu : u ≤ k) : pF u A A' := fun f a j q => h f a j (by omega)
theorem pF.oC {u k : Nat} {A A' : mA} (h : pF u A A') (hk : k < u) : oC A' k = oC A k := oC_cg (h 1 k 2 (by omega)) (fun j _ => ⟨h 3 k j (by omega), h 4 k j (by omega)⟩)
theorem pF.oQ {u k : Nat} {A A' : mA} (h : pF u A A') (hk : k < u) (q : oQ A k) : oQ A' k := ⟨by rw [h 1 k 2 (by omega)]; exact q.1, by rw [h.oC hk]; exact q.2.1, by rw [h.oC hk]; exact q.2.2⟩
theorem m_tkn {A : mA} {u : Nat} (hu : A 0 0 33 = u) (h200 : u < 200) : ∃ A', f_Mo_takenO A = some ((u : Int), A') ∧ pF u A A' ∧ A' 0 0 33 = ((u + 1 : Nat) : Int) ∧ oC A' u = [] ∧ oQ A' u := by
  unfold f_Mo_takenO
  rw [hu, Int.toNat_natCast, if_pos (show 0 ≤ ((u : Nat) : Int) ∧ ((u : Nat) : Int) < ((200 : Nat) : Int) by omega)]
  have e1 : mu (mu A 0 0 33 ((u : Int) + 1)) 1 u 2 0 1 u 2 = 0 := mu_at _ _ _ _ _
  have e2 : oC (mu (mu A 0 0 33 ((u : Int) + 1)) 1 u 2 0) u = [] := by
    unfold oC
    rw [e1]
    rfl
  refine ⟨_, rfl, fun f a j q => by rw [mu_ne _ _ (by omega), mu_ne _ _ (by omega)], ?_, e2, by rw [e1]; omega, ?_, ?_⟩
  · rw [mu_ne _ _ (by omega), mu_at]; omega
  · rw [e2]; intro q hq; cases hq
  · rw [e2]; exact List.Pairwise.nil
theorem mcl_app {l x y : List xE} : mcl l (x ++ y) = mcl (mcl l x) y := List.foldl_append
theorem mS9.fr {A A' : mA} {P i : Nat} {e : kS} (h : mS9 A P i e) (hr : rg9 i e) (hi : i < 16) (hf : ∀ f j, 34 ≤ f → f ≤ 46 → A' f P j = A f P j) : mS9 A' P i e := h.cg hr hi (fun f j h1 h2 _ _ _ => hf f j h1 h2)
theorem pF.tab {u : Nat} {A A' : mA} (h : pF u A A') (f P j : Nat) (hf : 5 ≤ f) : A' f P j = A f P j := h f P j (by omega)
section ROPS
variable {A : mA} {P i a u : Nat} {e : kS} {l : List xE}
theorem oC_at {A : mA} {a j : Nat} (h : j < (oC A a).length) : ((oC A a)[j]).1 = A 3 a j ∧ ((oC A a)[j]).2 = A 4 a j := by
  rw [oC_get]
  exact ⟨rfl, rfl⟩
/-- LET -/
theorem m_letO (hP : P < 6) (hi : i < 16) (hM : mS9 A P i e) (hr : rg9 i e) (k : sK e = 1) (hn : 0 ≤ sN e ∧ sN e < 6) (hu : A 0 0 33 = u) (h200 : u < 200) (ha : a < u) (hl : oC A a = l) (hq : oQ A a) (hw : ∀ q ∈ l, g64 q.2) : ∃ A', f_Mo_letO A P i a = some ((u : Int), A') ∧ pF u A A' ∧ A' 0 0 33 = ((u + 1 : Nat) : Int) ∧ oQ A' u ∧ oC A' u = mcl [] (l.map (xLet e)) := by
  obtain ⟨A1, t1, t2, t3, t4, t5⟩ := m_tkn hu h200
  have hlen : l.length = (A 1 a 2).toNat := by rw [← hl, oC_len]
  have h1a := hq.1
  have go : ∀ (F j : Nat) (B : mA), j ≤ l.length → l.length - j < F → pF u A B → B 0 0 33 = ((u + 1 : Nat) : Int) → oQ B u → oC B u = mcl [] ((l.take j).map (xLet e)) → ∃ A', f_Mo_letO_9 F B P i a u j = some ((u : Int), A') ∧ pF u A A' ∧ A' 0 0 33 = ((u + 1 : Nat) : Int) ∧ oQ A' u ∧ oC A' u = mcl [] (l.map (xLet e)) := by
    intro F
    induction F with
    | zero => intro j B _ h; omega
    | succ F ih =>
      intro j B h1 h2 hf h33 hQ hC
      have hMB := hM.fr (A' := B) hr hi (fun f j h _ => hf.tab f P j (by omega))
      unfold f_Mo_letO_9
      rw [hf 1 a 2 (by omega), if_pos (show g32 (j : Int) by unfold g32; omega), if_pos (show g32 (A 1 a 2) by unfold g32; omega)]
      by_cases z : l.length ≤ j
      · rw [if_pos (show A 1 a 2 ≤ (j : Int) by omega)]
        rw [List.take_of_length_le z] at hC
        exact ⟨B, rfl, hf, h33, hQ, hC⟩
      · have hj : j < l.length := by omega
        rw [if_neg (show ¬ A 1 a 2 ≤ (j : Int) by omega), if_pos (show 0 ≤ (j : Int) ∧ (j : Int) < ((301 : Nat) : Int) by omega), if_pos (show 0 ≤ (P : Int) ∧ (P : Int) < ((6 : Nat) : Int) by omega), if_pos (show 0 ≤ (i : Int) ∧ (i : Int) < ((16 : Nat) : Int) by omega)]
        simp only [Int.toNat_natCast]
        subst hl
        have e1 := oC_at hj
        have hst := hq.2.1 _ (List.getElem_mem hj)
        have hwj := hw _ (List.getElem_mem hj)
        rw [hf 3 a j (by omega), ← e1.1]
        obtain ⟨x1, x2, x3, x4⟩ := m_xv hP hMB (by omega) (by omega) (tn9_r hst)
        rw [x1, obind]
        show ∃ A', Option.bind (f_Mo_digit B (xv e ((oC A a)[j]).1)) _ = _ ∧ _
        rw [m_digit x2, obind]
        show ∃ A', Option.bind (f_Mo_with B ((oC A a)[j]).1 (B 35 P i) (xv e ((oC A a)[j]).1 % 10)) _ = _ ∧ _
        rw [hMB.1.2.1, m_wth hst hn (by omega), obind]
        show ∃ A', Option.bind (f_Odds_come B u (wth ((oC A a)[j]).1 (sN e).toNat (xv e ((oC A a)[j]).1 % 10)) (B 4 a j)) _ = _ ∧ _
        rw [hf 4 a j (by omega), ← e1.2]
        obtain ⟨B2, y1, y2, y3, y4⟩ := o_come hQ (wth_r hst (v := xv e ((oC A a)[j]).1 % 10) (n := (sN e).toNat) (by omega)) hwj
        rw [y1, obind]
        have e3 : ((j : Int) + 1) = ((j + 1 : Nat) : Int) := by omega
        show ∃ A', f_Mo_letO_9 F B2 P i a u ((j : Int) + 1) = _ ∧ _
        rw [e3]
        refine ih (j + 1) B2 hj (by omega) (hf.trans (pF.r y3 (Nat.le_refl _))) (by rw [y3 0 0 33 (by omega)]; exact h33) y4 ?_
        rw [y2, hC, take_s hj, List.map_append, mcl_app]
        rfl
  unfold f_Mo_letO
  rw [t1, obind]
  show ∃ A', f_Mo_letO_9 310 A1 P i a ((u : Int)).toNat 0 = _ ∧ _
  rw [Int.toNat_natCast]
  exact go 310 0 A1 (Nat.zero_le _) (by omega) t2 t3 t5 (by rw [t4]; rfl)
end ROPS
