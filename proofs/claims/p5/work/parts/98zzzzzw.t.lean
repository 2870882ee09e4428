/-! odds of the reference, some names forgotten: a block (own work) -/
section YEA
variable {T : xT} {b : Int → Int} {cnt : Nat} {A : mA}
theorem m_seesA (hT : TB T b cnt) (hm : mTab T cnt A) : ∀ m : Nat, m ≤ cnt → ∃ sE : Int → Int, ∀ u : Nat, u < m → (sE u = 0 ∨ sE u = 1) ∧ ∀ K, u < K → f_Mo_seesN K A u = some (sE u, A) := by
  have hc6 := hT.1
  intro m
  induction m with
  | zero => intro _; exact ⟨fun _ => 0, fun u hu => absurd hu (Nat.not_lt_zero u)⟩
  | succ m ih =>
    intro hmc
    obtain ⟨sE, hs⟩ := ih (by omega)
    obtain ⟨ho, hX, -⟩ := hT.2 m (by omega)
    obtain ⟨h5, hS⟩ := hm m (by omega)
    have hN := ho.1
    have h01 : ∀ i, i < (T m).1 → vSee (T m).2 sE i = 0 ∨ vSee (T m).2 sE i = 1 := fun i hi => by
      unfold vSee
      by_cases c2 : sK ((T m).2 i) = 2
      · rw [if_pos c2]
        exact Or.inr rfl
      rw [if_neg c2]
      by_cases c5 : sK ((T m).2 i) = 5
      · rw [if_pos c5]
        obtain ⟨u1, u2⟩ := (ho.2.2 i hi).1.2.2.2.2.2.1 c5
        have := (hs (sU ((T m).2 i)).toNat (by omega)).1
        rw [Int.toNat_of_nonneg u1] at this
        exact this
      · rw [if_neg c5]
        exact Or.inl rfl
    obtain ⟨s1, s2⟩ := ssS_01 h01 (T m).1 (Nat.le_refl _)
    refine ⟨fun z => if z = m then ssS (T m).2 sE (T m).1 (T m).1 else sE z, fun u hu => ?_⟩
    by_cases e : u = m
    · subst e
      simp only [if_pos]
      refine ⟨s1, fun K hK => ?_⟩
      obtain ⟨K, rfl⟩ : ∃ q, K = q + 1 := ⟨K - 1, by omega⟩
      obtain ⟨w, v1, v2⟩ := m_seesL (se := f_Mo_seesN K) (sE := sE) (by omega) hN h5 hS (fun i hi => (ho.2.2 i hi).1.1) (fun i hi c5 => by
        obtain ⟨u1, u2⟩ := (ho.2.2 i hi).1.2.2.2.2.2.1 c5
        have k := (hs (sU ((T u).2 i)).toNat (by omega)).2 K (by omega)
        rw [Int.toNat_of_nonneg u1] at k
        exact k) h01 (T u).1 20 0 (by omega) (by omega)
      have ew : w = ssS (T u).2 sE (T u).1 (T u).1 := by
        rcases v2 with ⟨a, b⟩ | ⟨a, j, b1, b2, b3⟩
        · rw [a, s2.mpr (fun i _ hi => b i (Nat.zero_le i) hi)]
        · rcases s1 with s1 | s1
          · exact absurd (s2.mp s1 j (by omega) b2) b3
          · rw [a, s1]
      show f_Mo_seesT (f_Mo_seesN K) A u = _
      unfold f_Mo_seesT
      rw [← ew]
      exact v1
    · have e' : ¬ ((u : Int) = (m : Int)) := by omega
      simp only [if_neg e']
      exact hs u (by omega)
theorem m_nfA (hT : TB T b cnt) (hm : mTab T cnt A) {P a e : Nat} {lv v : Int} (hP : P < cnt) (ht : tl (T P).2 lv 16 a e) (he : e ≤ (T P).1) (hv : g32 v) : ∃ v', f_Mo_neededFromN 18 A P a e v = some (v', A) ∧ g32 v' := by
  have hc6 := hT.1
  obtain ⟨sE, hs⟩ := m_seesA hT hm cnt (Nat.le_refl _)
  obtain ⟨ho, hX, -⟩ := hT.2 P hP
  obtain ⟨h5, hS⟩ := hm P hP
  have h16 := ho.1
  have r := m_nd (A := A) (sE := sE) (n := 16) (by omega) ho hS hX (fun u hu => ⟨(hs u (by omega)).2 7 (by omega), (hs u (by omega)).1⟩) 18 a e lv v (by omega) (Nat.le_refl _) ht he hv
  exact ⟨_, r, ndB_r _ _ _ ht (fun j _ hj => ndS_r ho 16 j (by omega) (by omega)) v hv⟩
end YEA
/-- a walk over a block with names forgotten -/
def MKn (T : xT) (b : Int → Int) (cnt : Nat) (mk : mA → Int → Int → Int → Nat → Int → Option (Int × mA)) (n : Nat) : Prop :=
  ∀ (P a e x u : Nat) (lv B v : Int) (A : mA), P < cnt → tl (T P).2 lv 16 a e → e ≤ (T P).1 → 0 ≤ lv → dep P lv < n → mTab T cnt A → mCa T cnt A → A 0 0 33 = u → u + 2 + pB P lv ≤ 195 → x < u → oQ A x → gdL B (oC A x) → (oC A x).length ≤ 300 → 0 ≤ B → B + tsm (gv (Fb (T P).2 b) 16) (T P).2 16 a e ≤ 50 → A 0 0 34 = 0 → g32 (A 0 0 35) → g32 v →
    ∃ A', mk A P a e x v = some ((u : Int), A') ∧ mkF u A A' ∧ mCa T cnt A' ∧ g32 (A' 0 0 35) ∧ oQ A' u ∧ ((A' 0 0 34 = 0 ∧ gdL (B + tsm (gv (Fb (T P).2 b) 16) (T P).2 16 a e) (oC A' u) ∧ (oC A' u).length ≤ 300 ∧ A' 0 0 33 = ((u + 1 : Nat) : Int) ∧ tot (oC A' u) ≤ tot (oC A x)) ∨ A' 0 0 34 = 1)
/-- one step's work with names forgotten -/
def STn (T : xT) (b : Int → Int) (cnt : Nat) (mk : mA → Int → Int → Int → Nat → Int → Option (Int × mA)) (n : Nat) : Prop :=
  ∀ (P i x u : Nat) (B v : Int) (A : mA), P < cnt → i < (T P).1 → dep P (sV ((T P).2 i)) < n → mTab T cnt A → mCa T cnt A → A 0 0 33 = u → u + 1 + pB P (sV ((T P).2 i)) ≤ 195 → x < u → oQ A x → gdL B (oC A x) → (oC A x).length ≤ 300 → 0 ≤ B → B + gv (Fb (T P).2 b) 16 i ≤ 50 → A 0 0 34 = 0 → g32 (A 0 0 35) → g32 v →
    ∃ r A', f_Mo_makeStep mk A P i x v = some (((r : Nat) : Int), A') ∧ u ≤ r ∧ r < 200 ∧ mkF u A A' ∧ mCa T cnt A' ∧ g32 (A' 0 0 35) ∧ oQ A' r ∧ ((A' 0 0 34 = 0 ∧ gdL (B + gv (Fb (T P).2 b) 16 i) (oC A' r) ∧ tot (oC A' r) ≤ tot (oC A x) ∧ ∃ z : Nat, A' 0 0 33 = z ∧ r < z ∧ z ≤ u + 5) ∨ A' 0 0 34 = 1)
section YEB
variable {T : xT} {b : Int → Int} {cnt n : Nat} {mk : mA → Int → Int → Int → Nat → Int → Option (Int × mA)}
theorem MKs.nm (hT : TB T b cnt) (h : MKs T b cnt mk n) {P a e x u : Nat} {lv B : Int} {A : mA} (hP : P < cnt) (ht : tl (T P).2 lv 16 a e) (he : e ≤ (T P).1) (hlv : 0 ≤ lv) (hd : dep P lv < n) (hm : mTab T cnt A) (hc : mCa T cnt A) (hu : A 0 0 33 = u) (h195 : u + 2 + pB P lv ≤ 195) (hx : x < u) (hQ : oQ A x) (hl : gdL B (oC A x)) (h300 : (oC A x).length ≤ 300) (hB : 0 ≤ B) (h50 : B + tsm (gv (Fb (T P).2 b) 16) (T P).2 16 a e ≤ 50) (h34 : A 0 0 34 = 0) (h35 : g32 (A 0 0 35)) : ∃ A', mk A P a e x (-1) = some ((u : Int), A') ∧ mkF u A A' ∧ mCa T cnt A' ∧ g32 (A' 0 0 35) ∧ oQ A' u ∧ ((A' 0 0 34 = 0 ∧ gdL (B + tsm (gv (Fb (T P).2 b) 16) (T P).2 16 a e) (oC A' u) ∧ (oC A' u).length ≤ 300 ∧ A' 0 0 33 = ((u + 1 : Nat) : Int) ∧ tot (oC A' u) ≤ tot (oC A x)) ∨ A' 0 0 34 = 1) := by
  obtain ⟨A', a1, a2, a3, a4, ⟨a5, a6⟩, a7, -⟩ := h P a e x u lv B A (oC A x) hP ht he hlv hd hm hc hu (by omega) hx hQ (List.Perm.refl _) h300 hB hl h50 h34 h35
  refine ⟨A', a1, a2, a3, a4, a5, ?_⟩
  rcases a6 with ⟨y, l', y1, y2, y3⟩ | ⟨y, -⟩
  · have g := gd_bk hT hP ht he hB hl h50 y1
    exact Or.inl ⟨y, g.1.pm y2, y3, a7 y, by rw [tot_perm y2]; exact g.2⟩
  · exact Or.inr y
/-- the names not needed any more are forgotten, behind a step -/
theorem mk_fgt {P e o w a a' z : Nat} {v v' B : Int} {A2 : mA} {F : Nat} (hc : mCa T cnt A2) (h33 : A2 0 0 33 = z) (hz : z < 200) (hoz : o < z) (hQ : oQ A2 o) (hg : gdL B (oC A2 o)) (h35 : g32 (A2 0 0 35)) (h37 : A2 37 P a = ((a' : Nat) : Int)) : ∃ A6, Option.bind (f_Mo_forget A2 o v') (fun q73 => (Option.bind (f_Odds_becomes q73.2 o q73.1.toNat) (fun q76 => (if g32 (q76.2 0 0 35) then (if g32 (q76.2 1 o 2) then (if (q76.2 1 o 2) ≤ 300 then (f_Mo_makeT_22 mk F (mu (mu (mu q76.2 0 0 33 (w : Int)) 0 0 35 (max (q76.2 0 0 35) (q76.2 1 o 2))) 0 0 34 0) P e v o w (q76.2 37 P a)) else (f_Mo_makeT_22 mk F (mu (mu (mu q76.2 0 0 33 (w : Int)) 0 0 35 (max (q76.2 0 0 35) (q76.2 1 o 2))) 0 0 34 1) P e v o w (q76.2 37 P a))) else none) else none)))) = f_Mo_makeT_22 mk F A6 P e v o w (a' : Int) ∧ mkF o A2 A6 ∧ mCa T cnt A6 ∧ A6 0 0 33 = (w : Int) ∧ g32 (A6 0 0 35) ∧ oQ A6 o ∧ ((A6 0 0 34 = 0 ∧ gdL B (oC A6 o) ∧ (oC A6 o).length ≤ 300 ∧ tot (oC A6 o) ≤ tot (oC A2 o)) ∨ A6 0 0 34 = 1) := by
  obtain ⟨A3, a1, a2, a3, a4, a5, a6, -⟩ := m_forget (v := v') h33 hz hoz hQ hg
  obtain ⟨A4, s1, s2, s3, s4⟩ := o_bec (k := o) a4 (by omega)
  have m4 : mkF o A2 A4 := ((mkF.p a2).up (by omega)).trans (mkF.r s3 (Nat.le_refl _))
  have c4 : mCa T cnt A4 := (hc.p a2).cg (fun f x j q => s3 f x j (by omega))
  have e35 : A4 0 0 35 = A2 0 0 35 := by rw [s3 0 0 35 (by omega), a2 0 0 35 (by omega)]
  have e37 : A4 37 P a = ((a' : Nat) : Int) := by rw [m4 37 P a (by omega)]; exact h37
  have h1 := s4.1
  have hl2 : (oC A4 o).length = (A4 1 o 2).toNat := oC_len
  have g1 : g32 (A4 1 o 2) := by unfold g32; omega
  have g35 : g32 (max (A4 0 0 35) (A4 1 o 2)) := by rw [e35]; unfold g32 at h35 ⊢; omega
  rw [a1, obind]
  dsimp only
  rw [Int.toNat_natCast, s1, obind]
  dsimp only
  rw [if_pos (show g32 (A4 0 0 35) by rw [e35]; exact h35), if_pos g1, e37]
  have f3' : ∀ z f x j, ¬ (f = 0 ∧ x = 0) → mu (mu (mu A4 0 0 33 (w : Int)) 0 0 35 (max (A4 0 0 35) (A4 1 o 2))) 0 0 34 z f x j = A4 f x j := fun z f x j q => by rw [mu_ne _ _ (by omega), mu_ne _ _ (by omega), mu_ne _ _ (by omega)]
  have f3 : ∀ z, mkF o A4 (mu (mu (mu A4 0 0 33 (w : Int)) 0 0 35 (max (A4 0 0 35) (A4 1 o 2))) 0 0 34 z) := fun z f x j q => by rw [mu_ne _ _ (by omega), mu_ne _ _ (by omega), mu_ne _ _ (by omega)]
  have oc3 : ∀ z, oC (mu (mu (mu A4 0 0 33 (w : Int)) 0 0 35 (max (A4 0 0 35) (A4 1 o 2))) 0 0 34 z) o = oC A4 o := fun z => oC_cg (f3' z 1 o 2 (by omega)) (fun j _ => ⟨f3' z 3 o j (by omega), f3' z 4 o j (by omega)⟩)
  have oq3 : ∀ z, oQ (mu (mu (mu A4 0 0 33 (w : Int)) 0 0 35 (max (A4 0 0 35) (A4 1 o 2))) 0 0 34 z) o := fun z => ⟨by rw [f3' z 1 o 2 (by omega)]; exact s4.1, by rw [oc3]; exact s4.2.1, by rw [oc3]; exact s4.2.2⟩
  have a33 : ∀ z, mu (mu (mu A4 0 0 33 (w : Int)) 0 0 35 (max (A4 0 0 35) (A4 1 o 2))) 0 0 34 z 0 0 33 = (w : Int) := fun z => by rw [mu_ne _ _ (by omega), mu_ne _ _ (by omega), mu_at]
  have a35 : ∀ z, mu (mu (mu A4 0 0 33 (w : Int)) 0 0 35 (max (A4 0 0 35) (A4 1 o 2))) 0 0 34 z 0 0 35 = max (A4 0 0 35) (A4 1 o 2) := fun z => by rw [mu_ne _ _ (by omega), mu_at]
  have c3 : ∀ z, mCa T cnt (mu (mu (mu A4 0 0 33 (w : Int)) 0 0 35 (max (A4 0 0 35) (A4 1 o 2))) 0 0 34 z) := fun z => c4.cg (fun f x j q => f3' z f x j (by omega))
  by_cases k : A4 1 o 2 ≤ 300
  · rw [if_pos k]
    exact ⟨_, rfl, m4.trans (f3 0), c3 0, a33 0, by rw [a35]; exact g35, oq3 0, Or.inl ⟨mu_at _ _ _ _ _, by rw [oc3, s2]; exact a5, by rw [oc3]; omega, by rw [oc3, s2]; exact a6⟩⟩
  · rw [if_neg k]
    exact ⟨_, rfl, m4.trans (f3 1), c3 1, a33 1, by rw [a35]; exact g35, oq3 1, Or.inr (mu_at _ _ _ _ _)⟩
end YEB
