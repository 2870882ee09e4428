/-! odds of the reference: a step's work, by kinds (own work) -/
theorem flat_perm {f : xE → List xE} {l l' : List xE} (h : l.Perm l') : (l.flatMap f).Perm (l'.flatMap f) := by
  induction h with
  | nil => exact List.Perm.refl _
  | cons x _ ih => rw [List.flatMap_cons, List.flatMap_cons]; exact List.Perm.append_left _ ih
  | swap x y l =>
    rw [List.flatMap_cons, List.flatMap_cons, List.flatMap_cons, List.flatMap_cons, ← List.append_assoc, ← List.append_assoc]
    exact List.Perm.append_right _ List.perm_append_comm
  | trans _ _ h1 h2 => exact h1.trans h2
/-- what a step is asked to leave -/
def skR (T : xT) (cnt P i u : Nat) (A : mA) (l : List xE) (r : Nat) (A' : mA) : Prop := u ≤ r ∧ r < 200 ∧ mkF u A A' ∧ mCa T cnt A' ∧ g32 (A' 0 0 35) ∧ oQ A' r ∧ ((A' 0 0 34 = 0 ∧ oR (oC A' r) (sSt T 40 P i l)) ∨ (A' 0 0 34 = 1 ∧ sSt T 40 P i l = none)) ∧ (A' 0 0 34 = 1 → 0 ≤ A' 0 0 33 ∧ A' 0 0 33 ≤ ((u + pWi (sV ((T P).2 i)) : Nat) : Int))
section SKI
variable {T : xT} {cnt P i u x : Nat} {A : mA} {l : List xE} {e : kS}
theorem skR_of {A' : mA} {X X0 : List xE} (hu : u < 200) (hf : pF u A A') (hc : mCa T cnt A) (h34 : A 0 0 34 = 0) (h35 : g32 (A 0 0 35)) (hQ : oQ A' u) (hX : oC A' u = mcl [] X) (hp : X.Perm X0) (hs : sSt T 40 P i l = cap9 X0) : skR T cnt P i u A l u A' := ⟨Nat.le_refl _, hu, mkF.p hf, hc.p hf, by rw [hf 0 0 35 (by omega)]; exact h35, hQ, Or.inl ⟨by rw [hf 0 0 34 (by omega)]; exact h34, by rw [hs]; exact oR_of hX hp⟩, fun q => by rw [hf 0 0 34 (by omega)] at q; omega⟩
theorem gd_perm {B : Int} {l l' : List xE} (h : l'.Perm l) (hl : gdL B l) : ∀ q ∈ l', 0 ≤ q.2 ∧ q.2 ≤ 1125899906842624 := fun q hq => ⟨hl.nn q (h.mem_iff.mp hq), hl.le q (h.mem_iff.mp hq)⟩
theorem st_k1 {B : Int} (hP : P < 6) (hi : i < 16) (he : (T P).2 i = e) (hM : mS9 A P i e) (hr : rg9 i e) (k : sK e = 1) (hn : 0 ≤ sN e ∧ sN e < 6) (hc : mCa T cnt A) (hu : A 0 0 33 = u) (h200 : u < 200) (hx : x < u) (hq : oQ A x) (hp : (oC A x).Perm l) (hl : gdL B l) (h34 : A 0 0 34 = 0) (h35 : g32 (A 0 0 35)) : ∃ A', f_Mo_letO A P i x = some ((u : Int), A') ∧ skR T cnt P i u A l u A' := by
  obtain ⟨A', a1, a2, a3, a4, a5⟩ := m_letO (l := oC A x) hP hi hM hr k hn hu h200 hx rfl hq (fun q hq => by have := gd_perm hp hl q hq; unfold g64; omega)
  refine ⟨A', a1, skR_of h200 a2 hc h34 h35 a4 a5 (hp.map _) ?_⟩
  show sSt T (39 + 1) P i l = _
  unfold sSt
  rw [he, if_neg (show ¬ sK e = 0 by omega), if_pos k]
theorem st_k2 {B : Int} (hP : P < 6) (hi : i < 16) (he : (T P).2 i = e) (hM : mS9 A P i e) (hr : rg9 i e) (k : sK e = 2) (hc : mCa T cnt A) (hu : A 0 0 33 = u) (h200 : u < 200) (hx : x < u) (hq : oQ A x) (hp : (oC A x).Perm l) (hl : gdL B l) (h34 : A 0 0 34 = 0) (h35 : g32 (A 0 0 35)) : ∃ A', f_Mo_split A P i x 1 = some ((u : Int), A') ∧ skR T cnt P i u A l u A' := by
  obtain ⟨A', a1, a2, a3, a4, a5⟩ := m_spl (l := oC A x) hP hi hM hr (by omega) (by omega) hu h200 hx rfl hq (fun q hq => by have := gd_perm hp hl q hq; unfold g64; omega) (b := 1) (Or.inr rfl) (fun q => xv e q.1 != 0) (fun q => by simp)
  refine ⟨A', a1, skR_of h200 a2 hc h34 h35 a4 a5 (hp.filter _) ?_⟩
  show sSt T (39 + 1) P i l = _
  unfold sSt
  rw [he, if_neg (show ¬ sK e = 0 by omega), if_neg (show ¬ sK e = 1 by omega), if_pos k]
theorem st_k0 {B : Int} {n0 : Nat} (hP : P < 6) (hi : i < 16) (he : (T P).2 i = e) (k : sK e = 0) (h36 : A 36 P i = ((sL e).length : Int)) (h40 : A 40 P i = n0) (h35' : A 35 P i = sN e) (hn0 : n0 + (sL e).length ≤ 120) (hlm : lotsM A P n0 (sL e)) (hlo : lotsOk (sL e)) (hb : 0 < kBt (kSumW (sL e))) (hn : 0 ≤ sN e ∧ sN e < 6) (hc : mCa T cnt A) (hu : A 0 0 33 = u) (h200 : u < 200) (hx : x < u) (hq : oQ A x) (hp : (oC A x).Perm l) (hl : gdL B l) (h34 : A 0 0 34 = 0) (h35 : g32 (A 0 0 35)) : ∃ A', f_Mo_draw A P i x = some ((u : Int), A') ∧ skR T cnt P i u A l u A' := by
  obtain ⟨A', a1, a2, a3, a4, a5⟩ := m_drw (l := oC A x) hP hi h36 h40 h35' hn0 hlm hlo hb hn hu h200 hx rfl hq (gd_perm hp hl)
  refine ⟨A', a1, skR_of h200 a2 hc h34 h35 a4 a5 (flat_perm hp) ?_⟩
  show sSt T (39 + 1) P i l = _
  unfold sSt
  rw [he, if_pos k]
end SKI
