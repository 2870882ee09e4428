/-! faces that ask for odds: apart, alike of both (own work) -/
/-- all names' values are as likely in both -/
def alP (l l' : List xE) (n v : Nat) : Prop := smR (xwN l n v).toNat (tot l).toNat (xwN l' n v).toNat (tot l').toNat = 1
def alR (l l' : List xE) (n : Nat) (z : Int) : Prop := (z = 1 ∧ ∀ n', n ≤ n' → n' < 6 → ∀ v, v < 10 → alP l l' n' v) ∨ (z = 0 ∧ ¬ ∀ n', n ≤ n' → n' < 6 → ∀ v, v < 10 → alP l l' n' v)
theorem alR.uniq {l1 l1' l2 l2' : List xE} {z z' : Int} (h : alR l1 l1' 0 z) (h' : alR l2 l2' 0 z') (hp : l1.Perm l2) (hp' : l1'.Perm l2') : z = z' := by
  have e : ∀ v u, alP l1 l1' v u ↔ alP l2 l2' v u := fun v u => by
    unfold alP
    rw [xwN_perm hp, xwN_perm hp', tot_perm hp, tot_perm hp']
  rcases h with ⟨a, b⟩ | ⟨a, b⟩ <;> rcases h' with ⟨c, d⟩ | ⟨c, d⟩
  · omega
  · exact absurd (fun v' q1 q2 u hu => (e v' u).mp (b v' q1 q2 u hu)) d
  · exact absurd (fun v' q1 q2 u hu => (e v' u).mpr (d v' q1 q2 u hu)) b
  · omega
section ALK
variable {l l' : List xE}
theorem m_alIn {A : mA} {o o' n : Nat} {c76 : mA → Nat → Nat → Int → Option (Int × mA)} (hq : oQ A o) (hg : gdL 50 (oC A o)) (h0 : 0 < (oC A o).length) (hq' : oQ A o') (hg' : gdL 50 (oC A o')) (h0' : 0 < (oC A o').length) (hn : n < 6) : ∀ (F w : Nat), w ≤ 10 → 10 - w < F → (∀ u, u < w → alP (oC A o) (oC A o') n u) → ((∀ u, u < 10 → alP (oC A o) (oC A o') n u) ∧ f_Mo_alike_86 c76 F A o o' n w = c76 A o o' ((n + 1 : Nat) : Int)) ∨ (¬ (∀ u, u < 10 → alP (oC A o) (oC A o') n u) ∧ f_Mo_alike_86 c76 F A o o' n w = some (0, A)) := by
  have t0 := hg.tot0
  have tp := hg.totp h0
  have t0' := hg'.tot0
  have tp' := hg'.totp h0'
  intro F
  induction F with
  | zero => intro w _ h; omega
  | succ F ih =>
    intro w h1 h2 h3
    unfold f_Mo_alike_86
    rw [if_pos (show g32 (w : Int) by unfold g32; omega), show ((n : Int) + 1) = ((n + 1 : Nat) : Int) by omega]
    by_cases z : 10 ≤ w
    · rw [if_pos (show (10 : Int) ≤ (w : Int) by omega)]
      exact Or.inl ⟨fun u hu => h3 u (by omega), rfl⟩
    · have xa := xwN_nn hg.nn n (w : Int)
      have xb := xwN_nn hg'.nn n (w : Int)
      rw [if_neg (show ¬ (10 : Int) ≤ (w : Int) by omega), m_wOf hq hn (show g32 (w : Int) by unfold g32; omega), obind]
      dsimp only
      rw [m_allO hq, obind]
      dsimp only
      rw [m_wOf hq' hn (show g32 (w : Int) by unfold g32; omega), obind]
      dsimp only
      rw [m_allO hq', obind]
      dsimp only
      have sm := m_same (A := A) (a := (xwN (oC A o) n w).toNat) (b := (tot (oC A o)).toNat) (c := (xwN (oC A o') n w).toNat) (d := (tot (oC A o')).toNat) (by omega) (by omega) (by omega) (by omega) (by omega) (by omega)
      rw [Int.toNat_of_nonneg xa.1, Int.toNat_of_nonneg t0.1, Int.toNat_of_nonneg xb.1, Int.toNat_of_nonneg t0'.1] at sm
      rw [sm, obind]
      dsimp only
      rcases smR_01 (a := (xwN (oC A o) n w).toNat) (b := (tot (oC A o)).toNat) (c := (xwN (oC A o') n w).toNat) (d := (tot (oC A o')).toNat) with e | e
      · rw [e, if_pos (show g32 (0 : Int) by decide), if_pos rfl]
        refine Or.inr ⟨fun hall => ?_, rfl⟩
        have := hall w (by omega)
        unfold alP at this
        omega
      · rw [e, if_pos (show g32 (1 : Int) by decide), if_neg (show ¬ (1 : Int) = 0 by decide), show ((w : Int) + 1) = ((w + 1 : Nat) : Int) by omega]
        refine ih (w + 1) (by omega) (by omega) (fun u hu => ?_)
        by_cases y : u = w
        · subst y; exact e
        · exact h3 u (by omega)
theorem m_alOut {A : mA} {o o' : Nat} (hq : oQ A o) (hg : gdL 50 (oC A o)) (h0 : 0 < (oC A o).length) (hq' : oQ A o') (hg' : gdL 50 (oC A o')) (h0' : 0 < (oC A o').length) : ∀ (F n : Nat), n ≤ 6 → 6 - n < F → ∃ z, f_Mo_alike_76 F A o o' n = some (z, A) ∧ alR (oC A o) (oC A o') n z := by
  intro F
  induction F with
  | zero => intro v _ h; omega
  | succ F ih =>
    intro n h1 h2
    unfold f_Mo_alike_76
    rw [if_pos (show g32 (n : Int) by unfold g32; omega)]
    by_cases z : 6 ≤ n
    · rw [if_pos (show (6 : Int) ≤ (n : Int) by omega)]
      exact ⟨1, rfl, Or.inl ⟨rfl, fun v' q1 q2 => by omega⟩⟩
    · rw [if_neg (show ¬ (6 : Int) ≤ (n : Int) by omega)]
      rcases m_alIn (n := n) (c76 := f_Mo_alike_76 F) hq hg h0 hq' hg' h0' (by omega) 20 0 (by omega) (by omega) (fun u hu => absurd hu (Nat.not_lt_zero u)) with ⟨c, mi⟩ | ⟨c, mi⟩
      · have mi' : f_Mo_alike_86 (f_Mo_alike_76 F) 20 A o o' n 0 = _ := mi
        rw [mi']
        obtain ⟨y, y1, y2⟩ := ih (n + 1) (by omega) (by omega)
        refine ⟨y, y1, ?_⟩
        rcases y2 with ⟨a, b⟩ | ⟨a, b⟩
        · refine Or.inl ⟨a, fun n' q1 q2 v hv => ?_⟩
          by_cases e : n' = n
          · subst e; exact c v hv
          · exact b n' (by omega) q2 v hv
        · exact Or.inr ⟨a, fun y => b (fun v' q1 q2 => y v' (by omega) q2)⟩
      · have mi' : f_Mo_alike_86 (f_Mo_alike_76 F) 20 A o o' n 0 = _ := mi
        rw [mi']
        exact ⟨0, rfl, Or.inr ⟨rfl, fun y => c (y n (Nat.le_refl n) (by omega))⟩⟩
theorem c_alIn {C : mA} {G : tG} {k x cr cr' n : Nat} {c65 : Nat → tG → mA → Nat → Nat → Nat → Int → wQ → Prop} {Q : wQ} (hc : CWs C cr l) (hc' : CWs C cr' l') (hg : gdL 50 l) (h0 : 0 < l.length) (hg' : gdL 50 l') (h0' : 0 < l'.length) (hr1 : ∀ u : Nat, u < 10 → C 23 (C 8 x 11).toNat u = xwN l n ((u : Nat) : Int)) (hr2 : ∀ u : Nat, u < 10 → C 23 (C 8 x 12).toNat u = xwN l' n ((u : Nat) : Int)) (hyes : (∀ u, u < 10 → alP l l' n u) → c65 k G C x cr cr' ((n + 1 : Nat) : Int) Q) (hno : ¬ (∀ u, u < 10 → alP l l' n u) → Q 0 C G k) : ∀ (F w : Nat), w ≤ 10 → 10 - w < F → (∀ u, u < w → alP l l' n u) → w_CS_alike_96 c65 F k G C x cr cr' n w Q := by
  have t0 := hg.tot0
  have tp := hg.totp h0
  have t0' := hg'.tot0
  have tp' := hg'.totp h0'
  intro F
  induction F with
  | zero => intro w _ h; omega
  | succ F ih =>
    intro w h1 h2 h3
    unfold w_CS_alike_96
    rw [if_pos (show g32 (w : Int) by unfold g32; omega), show ((n : Int) + 1) = ((n + 1 : Nat) : Int) by omega]
    by_cases z : 10 ≤ w
    · rw [if_pos (show (10 : Int) ≤ (w : Int) by omega)]
      exact hyes (fun u hu => h3 u (by omega))
    · have xa := xwN_nn hg.nn n (w : Int)
      have xb := xwN_nn hg'.nn n (w : Int)
      have sm := c_same (C := C) (a := (xwN l n w).toNat) (b := (tot l).toNat) (c := (xwN l' n w).toNat) (d := (tot l').toNat) (by omega) (by omega) (by omega) (by omega) (by omega) (by omega)
      rw [Int.toNat_of_nonneg xa.1, Int.toNat_of_nonneg t0.1, Int.toNat_of_nonneg xb.1, Int.toNat_of_nonneg t0'.1] at sm
      rw [if_neg (show ¬ (10 : Int) ≤ (w : Int) by omega), if_pos (show 0 ≤ (w : Int) ∧ (w : Int) < ((10 : Nat) : Int) by omega)]
      simp only [Int.toNat_natCast]
      refine ⟨_, c_weight hc, _, c_weight hc', ?_⟩
      dsimp only
      rw [hr1 w (by omega), hr2 w (by omega)]
      refine ⟨_, sm, ?_⟩
      dsimp only
      rcases smR_01 (a := (xwN l n w).toNat) (b := (tot l).toNat) (c := (xwN l' n w).toNat) (d := (tot l').toNat) with e | e
      · rw [e, if_pos (show g32 (0 : Int) by decide), if_pos rfl]
        refine hno (fun hall => ?_)
        have := hall w (by omega)
        unfold alP at this
        omega
      · rw [e, if_pos (show g32 (1 : Int) by decide), if_neg (show ¬ (1 : Int) = 0 by decide), show ((w : Int) + 1) = ((w + 1 : Nat) : Int) by omega]
        refine ih (w + 1) (by omega) (by omega) (fun u hu => ?_)
        by_cases y : u = w
        · subst y; exact e
        · exact h3 u (by omega)
theorem c_alOut {C0 : mA} {G : tG} {k x cr cr' : Nat} {Q : wQ} (hc : CWs C0 cr l) (hc' : CWs C0 cr' l') (hg : gdL 50 l) (h0 : 0 < l.length) (hg' : gdL 50 l') (h0' : 0 < l'.length) (hrr : (C0 8 x 11).toNat ≠ (C0 8 x 12).toNat) (hQ : ∀ z C', alR l l' 0 z → (∀ f a j, f ≠ 23 → C' f a j = C0 f a j) → Q z C' G k) : ∀ (F n : Nat) (C : mA), n ≤ 6 → 6 - n < F → (∀ f a j, f ≠ 23 → C f a j = C0 f a j) → (∀ n', n' < n → ∀ v, v < 10 → alP l l' n' v) → w_CS_alike_65 F k G C x cr cr' n Q := by
  intro F
  induction F with
  | zero => intro v C _ h; omega
  | succ F ih =>
    intro n C h1 h2 hf h3
    have cwf : ∀ {C9 : mA} {a : Nat} {L : List xE}, (∀ f a j, f ≠ 23 → C9 f a j = C0 f a j) → CWs C0 a L → CWs C9 a L := fun h9 hcc => hcc.cg (fun j => h9 0 _ j (by decide)) (fun j => h9 31 _ j (by decide)) (fun j => h9 32 _ j (by decide))
    unfold w_CS_alike_65
    rw [if_pos (show g32 (n : Int) by clear hrr; unfold g32; omega)]
    by_cases z : 6 ≤ n
    · rw [if_pos (show (6 : Int) ≤ (n : Int) by clear hrr; omega)]
      exact hQ 1 C (Or.inl ⟨rfl, fun n' _ q2 v hv => h3 n' (by clear hrr; omega) v hv⟩) hf
    · have hn : n < 6 := by clear hrr; omega
      rw [if_neg (show ¬ (6 : Int) ≤ (n : Int) by clear hrr; omega)]
      have e11 : ∀ {C9 : mA}, (∀ f a j, f ≠ 23 → C9 f a j = C0 f a j) → C9 8 x 11 = C0 8 x 11 ∧ C9 8 x 12 = C0 8 x 12 := fun h9 => ⟨h9 8 x 11 (by decide), h9 8 x 12 (by decide)⟩
      obtain ⟨C1, s1, s2, s3⟩ := c_spread (C0 := C) (cr := cr) (row := (C 8 x 11).toNat) (nm := n) (cwf hf hc).g2 hn
      have hf1 : ∀ f a j, f ≠ 23 → C1 f a j = C0 f a j := fun f a j q => (s2 f a j (fun y => q y.1)).trans (hf f a j q)
      obtain ⟨C2, u1, u2, u3⟩ := c_spread (C0 := C1) (cr := cr') (row := (C1 8 x 12).toNat) (nm := n) (cwf hf1 hc').g2 hn
      have hf2 : ∀ f a j, f ≠ 23 → C2 f a j = C0 f a j := fun f a j q => (u2 f a j (fun y => q y.1)).trans (hf1 f a j q)
      refine ⟨_, s1, _, u1, ?_⟩
      have key := c_alIn (C := C2) (G := G) (k := k) (x := x) (cr := cr) (cr' := cr') (n := n) (c65 := w_CS_alike_65 F) (Q := Q) (cwf hf2 hc) (cwf hf2 hc') hg h0 hg' h0' (fun u hu => by
          rw [(e11 hf2).1, u2 23 _ u (fun y => hrr (by have := y.2; rw [(e11 hf1).2] at this; exact this)), ← (e11 hf).1]
          exact s3 l (cwf hf hc) u hu) (fun u hu => by
          rw [(e11 hf2).2, ← (e11 hf1).2]
          exact u3 l' (cwf hf1 hc') u hu) (fun hall => ih (n + 1) C2 hn (by clear hrr; omega) hf2 (fun n' hn' v hv => by
          by_cases e : n' = n
          · subst e; exact hall v hv
          · exact h3 n' (by clear hrr; omega) v hv)) (fun hno => hQ 0 C2 (Or.inr ⟨rfl, fun y => hno (y n (Nat.zero_le _) hn)⟩) hf2) 20 0 (by decide) (by decide) (fun u hu => absurd hu (Nat.not_lt_zero u))
      exact key
end ALK
section FAP
variable {D : va_G} {Gt G : tG} {C A : mA} {w : jW} {x sl hm k : Nat} {T : xT}
theorem apart_both (hw : hW D Gt C w) (gx : Gt x = some 8) (h : R9 x C A) (hx : WX x G C A T sl hm) {p n m : Int} (gp : g32 p) (gn : g32 n) (gm : g32 m) (hk : rmK x C ≤ k) : FB x G C A T sl hm k (f_Mo_apart A p n m) (w_CS_apart k G C x p n m) := by
  obtain ⟨-, ⟨b1, b2, b3⟩, -⟩ := id h.1.1
  unfold f_Mo_apart w_CS_apart
  have g1 : g32 (1 : Int) := by decide
  have g0 : g32 (0 : Int) := by decide
  have n1 : ¬ (1 : Int) = 0 := by decide
  rw [m_isProg ⟨b2, b3⟩ gp, obind]
  by_cases q1 : 0 ≤ p ∧ p < A 0 0 0
  · rw [if_pos q1]
    dsimp only
    rw [if_pos g1, if_neg n1, m_isName gn, obind]
    by_cases q2 : 0 ≤ n ∧ n ≤ 5
    · have q2' : 0 ≤ n ∧ n < 6 := by omega
      rw [if_pos q2]
      dsimp only
      rw [if_pos g1, if_neg n1, m_isName gm, obind]
      by_cases q3 : 0 ≤ m ∧ m ≤ 5
      · have q3' : 0 ≤ m ∧ m < 6 := by omega
        rw [if_pos q3]
        dsimp only
        rw [if_pos g1, if_neg n1]
        obtain ⟨P, rfl⟩ : ∃ P : Nat, p = P := ⟨p.toNat, by omega⟩
        obtain ⟨N, rfl⟩ : ∃ N : Nat, n = N := ⟨n.toNat, by omega⟩
        obtain ⟨M, rfl⟩ : ∃ M : Nat, m = M := ⟨m.toNat, by omega⟩
        refine FB.ofEnd hw gx h hx q1.2 hk (Fc := fun A' => (Option.bind (f_Mo_against A' 1) (fun q33 => (if g32 q33.1 then (if q33.1 = 0 then (Option.bind (f_Odds_all q33.2 1) (fun q37 => (f_Mo_apart_59 20 q37.2 N M 1 q37.1 0))) else (some (q33.1, q33.2))) else none)))) (Wc := fun r30 A31 G32 k33 Q => (if 0 ≤ r30 then (if g32 (A31 0 r30.toNat 2) then (if (A31 0 r30.toNat 2) = 0 then (Q (-7) A31 G32 k33) else (∃ q42, f_Crowd_weight A31 r30.toNat = some q42 ∧ (∃ q45, f_Crowd_spread q42.2 r30.toNat M ((q42.2 8 x 11).toNat) = some q45 ∧ (w_CS_apart_78 20 k33 G32 q45.2 x N M r30.toNat q42.1 0 Q)))) else False) else (Q (-6) A31 G32 k33))) (fun A' e => by rw [e, obind]; rfl) (fun Q hQ => ?_) (fun A' e => ?_) (fun A' e hq hg => ?_)
        · refine ⟨_, c_isProg h.1.1 gp, ?_⟩
          rw [if_pos q1]
          dsimp only
          rw [if_pos g1, if_neg n1]
          refine ⟨_, c_isName gn, ?_⟩
          rw [if_pos q2']
          dsimp only
          rw [if_pos g1, if_neg n1]
          refine ⟨_, c_isName gm, ?_⟩
          rw [if_pos q3']
          dsimp only
          rw [if_pos g1, if_neg n1]
          exact hQ
        · unfold f_Mo_against
          rw [e, if_pos g1, if_neg n1, obind]
          exact ⟨_, rfl, fun _ _ _ _ hQ => by rw [if_neg (by decide)]; exact hQ⟩
        · have many := oC_many hq
          have hl := hq.1
          unfold f_Mo_against
          rw [e, if_pos g0, if_pos rfl, if_pos (show g32 (A' 1 1 2) by unfold g32; omega)]
          by_cases z : A' 1 1 2 = 0
          · rw [if_pos z, obind]
            refine ⟨_, rfl, fun C9 G9 k9 cr l Q hc hgl hp _ hQ => ?_⟩
            have m0 := many0 hc hq hp
            rw [if_pos (Int.natCast_nonneg cr), Int.toNat_natCast, m0, if_pos (show g32 (A' 1 1 2) by unfold g32; omega), if_pos z]
            exact hQ C9 (fun _ _ _ _ => rfl)
          · have h0 : 0 < (oC A' 1).length := by omega
            rw [if_neg z, obind]
            dsimp only
            obtain ⟨y, y1, y2⟩ := m_apOut (n := N) (n' := M) hq hg h0 (by omega) (by omega) 20 0 (by omega) (by omega)
            have y1' : f_Mo_apart_59 20 A' N M 1 (tot (oC A' 1)) 0 = some (y, A') := y1
            rw [if_pos g0, if_pos rfl, m_allO hq, obind]
            dsimp only
            rw [y1']
            refine ⟨y, rfl, fun C9 G9 k9 cr l Q hc hgl hp hrr hQ => ?_⟩
            have m0 := many0 hc hq hp
            obtain ⟨C', s1, s2, s3⟩ := c_spread (C0 := C9) (cr := cr) (row := (C9 8 x 11).toNat) (nm := M) hc.g2 (by clear hrr; omega)
            have f8 : ∀ j, C' 8 x j = C9 8 x j := fun j => s2 8 x j (fun q => absurd q.1 (by decide))
            have hc' : CWs C' cr l := hc.cg (fun j => s2 0 _ j (fun q => absurd q.1 (by decide))) (fun j => s2 31 _ j (fun q => absurd q.1 (by decide))) (fun j => s2 32 _ j (fun q => absurd q.1 (by decide)))
            rw [if_pos (Int.natCast_nonneg cr), Int.toNat_natCast, m0, if_pos (show g32 (A' 1 1 2) by clear hrr; unfold g32; omega), if_neg z]
            refine ⟨_, c_weight hc, _, s1, ?_⟩
            dsimp only
            have cg := c_apOut (C0 := C') (G := G9) (k := k9) (x := x) (cr := cr) (n := N) (n' := M) (Q := Q) hc' hgl (by rw [← hp.length_eq]; exact h0) (by clear hrr; omega) (by clear hrr; omega) (by rw [f8, f8]; exact hrr) (fun u hu => by rw [f8]; exact s3 l hc u hu) (fun z9 C'' hz hf => by
              rw [← y2.uniq hz hp]
              exact hQ C'' (fun f a j q => (hf f a j q).trans (s2 f a j (fun q' => q q'.1)))) 20 0 C' (by decide) (by decide) (fun _ _ _ _ => rfl) (fun v' hv => absurd hv (Nat.not_lt_zero v'))
            exact cg
      · have q3' : ¬ (0 ≤ m ∧ m < 6) := by omega
        rw [if_neg q3]
        refine FB.stop h hx rfl (fun Q hQ => ⟨_, c_isProg h.1.1 gp, ?_⟩)
        rw [if_pos q1]
        dsimp only
        rw [if_pos g1, if_neg n1]
        refine ⟨_, c_isName gn, ?_⟩
        rw [if_pos q2']
        dsimp only
        rw [if_pos g1, if_neg n1]
        refine ⟨_, c_isName gm, ?_⟩
        rw [if_neg q3']
        dsimp only
        rw [if_pos g0, if_pos rfl]
        exact hQ
    · have q2' : ¬ (0 ≤ n ∧ n < 6) := by omega
      rw [if_neg q2]
      refine FB.stop h hx rfl (fun Q hQ => ⟨_, c_isProg h.1.1 gp, ?_⟩)
      rw [if_pos q1]
      dsimp only
      rw [if_pos g1, if_neg n1]
      refine ⟨_, c_isName gn, ?_⟩
      rw [if_neg q2']
      dsimp only
      rw [if_pos g0, if_pos rfl]
      exact hQ
  · rw [if_neg q1]
    refine FB.stop h hx rfl (fun Q hQ => ⟨_, c_isProg h.1.1 gp, ?_⟩)
    rw [if_neg q1]
    dsimp only
    rw [if_pos g0, if_pos rfl]
    exact hQ
end FAP
