/-! faces that ask for odds: likeliest, apart of both (own work) -/
theorem c_likV {C : mA} {G : tG} {k x : Nat} {f : Nat → Int} {Q : wQ} (hrow : ∀ v : Nat, v < 10 → C 23 (C 8 x 11).toNat v = f v) (hf : ∀ v, v < 10 → g64 (f v)) (hQ : ∀ v : Nat, isBestV f v → Q v C G k) : ∀ (F i j : Nat), i < j → j ≤ 10 → 10 - j < F → (∀ u, u < j → f u < f i ∨ (f u = f i ∧ i ≤ u)) → w_CS_likeliest_79 F k G C x i j Q := by
  intro F
  induction F with
  | zero => intro i j _ _ h; omega
  | succ F ih =>
    intro i j hi h1 h2 h3
    unfold w_CS_likeliest_79
    rw [if_pos (show g32 (j : Int) by unfold g32; omega)]
    by_cases z : 10 ≤ j
    · rw [if_pos (show (10 : Int) ≤ (j : Int) by omega)]
      exact hQ i ⟨by omega, fun u hu => h3 u (by omega)⟩
    · have hj : j < 10 := by omega
      have hi10 : i < 10 := by omega
      rw [if_neg (show ¬ (10 : Int) ≤ (j : Int) by omega), if_pos (show 0 ≤ (j : Int) ∧ (j : Int) < ((10 : Nat) : Int) by omega), if_pos (show 0 ≤ (i : Int) ∧ (i : Int) < ((10 : Nat) : Int) by omega)]
      simp only [Int.toNat_natCast]
      have ej := hrow j hj
      have ei := hrow i hi10
      rw [if_pos (show g64 (C 23 (C 8 x 11).toNat j) by rw [ej]; exact hf j hj), if_pos (show g64 (C 23 (C 8 x 11).toNat i) by rw [ei]; exact hf i hi10), show ((j : Int) + 1) = ((j + 1 : Nat) : Int) by omega]
      by_cases c : f i < f j
      · have el : ¬ lc (C 23 (C 8 x 11).toNat j) (C 23 (C 8 x 11).toNat i) ≤ 0 := by
          rw [ej, ei]
          unfold lc
          rw [if_neg (by omega), if_neg (by omega)]
          decide
        rw [if_neg el]
        refine ih j (j + 1) (by omega) hj (by omega) (fun u hu => ?_)
        by_cases e : u = j
        · subst e; exact Or.inr ⟨rfl, Nat.le_refl _⟩
        · have := h3 u (by omega)
          exact Or.inl (by omega)
      · have el : lc (C 23 (C 8 x 11).toNat j) (C 23 (C 8 x 11).toNat i) ≤ 0 := by
          rw [ej, ei]
          unfold lc
          by_cases y : f j < f i
          · rw [if_pos y]; decide
          · rw [if_neg y, if_pos (by omega)]; decide
        rw [if_pos el]
        refine ih i (j + 1) (by omega) hj (by omega) (fun u hu => ?_)
        by_cases e : u = j
        · subst e; omega
        · exact h3 u (by omega)
section FLI
variable {D : va_G} {Gt G : tG} {C A : mA} {w : jW} {x sl hm k : Nat} {T : xT}
theorem likel_both (hw : hW D Gt C w) (gx : Gt x = some 8) (h : R9 x C A) (hx : WX x G C A T sl hm) {p n : Int} (gp : g32 p) (gn : g32 n) (hk : rmK x C ≤ k) : FB x G C A T sl hm k (f_Mo_likeliest A p n) (w_CS_likeliest k G C x p n) := by
  obtain ⟨-, ⟨b1, b2, b3⟩, -⟩ := id h.1.1
  unfold f_Mo_likeliest w_CS_likeliest
  have g1 : g32 (1 : Int) := by decide
  have g0 : g32 (0 : Int) := by decide
  have n1 : ¬ (1 : Int) = 0 := by decide
  rw [m_isProg ⟨b2, b3⟩ gp, obind]
  by_cases q1 : 0 ≤ p ∧ p < A 0 0 0
  · rw [if_pos q1]
    dsimp only
    rw [if_pos g1, if_neg n1, m_inF gn (by decide) (by decide), obind]
    by_cases q2 : 0 ≤ n ∧ n ≤ 6
    · rw [if_pos q2]
      dsimp only
      rw [if_pos g1, if_neg n1]
      obtain ⟨P, rfl⟩ : ∃ P : Nat, p = P := ⟨p.toNat, by omega⟩
      obtain ⟨N, rfl⟩ : ∃ N : Nat, n = N := ⟨n.toNat, by omega⟩
      refine FB.ofEnd hw gx h hx q1.2 hk (Fc := fun A' => (Option.bind (f_Mo_against A' 1) (fun q30 => (if g32 q30.1 then (if q30.1 = 0 then (if g32 (N : Int) then (if (N : Int) = 6 then (f_Mo_likeliest_69 310 q30.2 N 1 (-1) 0 (q30.2 1 1 2) 0) else (f_Mo_likeliest_69 310 q30.2 N 1 (-1) 0 10 0)) else none) else (some (q30.1, q30.2))) else none)))) (Wc := fun r18 A19 G20 k21 Q => (if 0 ≤ r18 then (if g32 (A19 0 r18.toNat 2) then (if (A19 0 r18.toNat 2) = 0 then (Q (-7) A19 G20 k21) else (if g32 (N : Int) then (if (N : Int) = 6 then (∃ q35, f_Crowd_likeliestState A19 r18.toNat = some q35 ∧ (∃ q37, f_CS_unpacked q35.2 q35.1 = some q37 ∧ (Q q37.1 q37.2 G20 k21))) else (∃ q33, f_Crowd_spread A19 r18.toNat N ((A19 8 x 11).toNat) = some q33 ∧ (w_CS_likeliest_79 20 k21 G20 q33.2 x 0 1 Q))) else False)) else False) else (Q (-6) A19 G20 k21))) (fun A' e => by rw [e, obind]; rfl) (fun Q hQ => ?_) (fun A' e => ?_) (fun A' e hq hg => ?_)
      · refine ⟨_, c_isProg h.1.1 gp, ?_⟩
        rw [if_pos q1]
        dsimp only
        rw [if_pos g1, if_neg n1, if_pos gn, if_neg (show ¬ (N : Int) < 0 by omega), if_pos q2.2]
        exact hQ
      · unfold f_Mo_against
        rw [e, if_pos g1, if_neg n1, obind]
        exact ⟨_, rfl, fun _ _ _ _ hQ => by rw [if_neg (by decide)]; exact hQ⟩
      · have many := oC_many hq
        have hl := hq.1
        unfold f_Mo_against
        rw [e, if_pos g0, if_pos rfl, if_pos (show g32 (A' 1 1 2) by unfold g32; omega)]
        by_cases z : A' 1 1 2 = 0
        · rw [if_pos z, obind]
          refine ⟨_, rfl, fun C9 G9 k9 cr l Q hc hgl hp _ hQ => ?_⟩
          have m0 := many0 hc hq hp
          rw [if_pos (Int.natCast_nonneg cr), Int.toNat_natCast, m0, if_pos (show g32 (A' 1 1 2) by unfold g32; omega), if_pos z]
          exact hQ C9 (fun _ _ _ _ => rfl)
        · have h0 : 0 < (oC A' 1).length := by omega
          have tp := hg.totp h0
          have t0 := hg.tot0
          rw [if_neg z, obind]
          dsimp only
          rw [if_pos g0, if_pos rfl, if_pos gn]
          by_cases k6 : (N : Int) = 6
          · obtain rfl : N = 6 := by omega
            obtain ⟨tt, m1, m2⟩ := m_likelO hq h0 (fun q hq' => ⟨(hg.2.1 q hq').2.1, by have := hg.nn q hq'; have := hg.le q hq'; unfold g64; omega⟩)
            have m1' : f_Mo_likeliest_69 310 A' ((6 : Nat) : Int) 1 (-1) 0 (A' 1 1 2) 0 = some (tt, A') := m1
            rw [if_pos (show ((6 : Nat) : Int) = 6 from rfl), m1']
            refine ⟨tt, rfl, fun C9 G9 k9 cr l Q hc hgl hp _ hQ => ?_⟩
            have m0 := many0 hc hq hp
            obtain ⟨s, c1, c2, c3⟩ := c_likeliest hc (by rw [← hp.length_eq]; exact h0) (fun q hq' => by have := hgl.nn q hq'; have := hgl.le q hq'; unfold g64; omega)
            rw [if_pos (Int.natCast_nonneg cr), Int.toNat_natCast, m0, if_pos (show g32 (A' 1 1 2) by unfold g32; omega), if_neg z, if_pos gn, if_pos (show ((6 : Nat) : Int) = 6 from rfl)]
            refine ⟨_, c1, _, c_unpacked c2, ?_⟩
            dsimp only
            have : dsum (nb9 s) = tt := (m2.uniq c3 hp).symm
            rw [this]
            exact hQ C9 (fun _ _ _ _ => rfl)
          · have hN6 : N < 6 := by omega
            have hxw : ∀ v : Nat, v < 10 → 0 ≤ xwN (oC A' 1) N ((v : Nat) : Int) ∧ g64 (xwN (oC A' 1) N ((v : Nat) : Int)) := fun v _ => by
              have := xwN_nn hg.nn N ((v : Nat) : Int)
              unfold g64
              omega
            have hpos : ∃ v : Nat, v < 10 ∧ 0 < xwN (oC A' 1) N ((v : Nat) : Int) := by
              rcases Classical.em (∃ v : Nat, v < 10 ∧ 0 < xwN (oC A' 1) N ((v : Nat) : Int)) with y | y
              · exact y
              · exfalso
                have hz : ∀ v : Nat, v < 10 → xwN (oC A' 1) N ((v : Nat) : Int) = 0 := fun v hv => by
                  have := (hxw v hv).1
                  rcases Int.lt_or_eq_of_le this with q | q
                  · exact absurd ⟨v, hv, q⟩ y
                  · exact q.symm
                have hs := xwN_sum (l := oC A' 1) (n := N)
                have hs : xwN (oC A' 1) N ((0 : Nat) : Int) + xwN (oC A' 1) N ((1 : Nat) : Int) + xwN (oC A' 1) N ((2 : Nat) : Int) + xwN (oC A' 1) N ((3 : Nat) : Int) + xwN (oC A' 1) N ((4 : Nat) : Int) + xwN (oC A' 1) N ((5 : Nat) : Int) + xwN (oC A' 1) N ((6 : Nat) : Int) + xwN (oC A' 1) N ((7 : Nat) : Int) + xwN (oC A' 1) N ((8 : Nat) : Int) + xwN (oC A' 1) N ((9 : Nat) : Int) = tot (oC A' 1) := hs
                rw [hz 0 (by decide), hz 1 (by decide), hz 2 (by decide), hz 3 (by decide), hz 4 (by decide), hz 5 (by decide), hz 6 (by decide), hz 7 (by decide), hz 8 (by decide), hz 9 (by decide)] at hs
                omega
            obtain ⟨v, m1, m2⟩ := m_likelV hq hN6 hxw hpos
            rw [if_neg k6, m1]
            refine ⟨_, rfl, fun C9 G9 k9 cr l Q hc hgl hp _ hQ => ?_⟩
            have m0 := many0 hc hq hp
            obtain ⟨C', s1, s2, s3⟩ := c_spread (C0 := C9) (cr := cr) (row := (C9 8 x 11).toNat) (nm := N) hc.g2 hN6
            rw [if_pos (Int.natCast_nonneg cr), Int.toNat_natCast, m0, if_pos (show g32 (A' 1 1 2) by unfold g32; omega), if_neg z, if_pos gn, if_neg k6]
            refine ⟨_, s1, ?_⟩
            dsimp only
            have cg : w_CS_likeliest_79 20 k9 G9 C' x ((0 : Nat) : Int) ((1 : Nat) : Int) Q := c_likV (f := fun v => xwN (oC A' 1) N ((v : Nat) : Int)) (fun u hu => by rw [s2 8 x 11 (by omega), s3 l hc u hu, xwN_perm hp]) (fun u hu => (hxw u hu).2) (fun u hu => by
              rw [← m2.uniq hu]
              exact hQ C' (fun f a j y => s2 f a j (by omega))) 20 0 1 (by omega) (by omega) (by omega) (fun u hu => by
              obtain rfl : u = 0 := by omega
              exact Or.inr ⟨rfl, Nat.le_refl _⟩)
            exact cg
    · rw [if_neg q2]
      refine FB.stop h hx rfl (fun Q hQ => ⟨_, c_isProg h.1.1 gp, ?_⟩)
      rw [if_pos q1]
      dsimp only
      rw [if_pos g1, if_neg n1, if_pos gn]
      by_cases c : n < 0
      · rw [if_pos c]; exact hQ
      · rw [if_neg c, if_neg (show ¬ n ≤ 6 by omega)]; exact hQ
  · rw [if_neg q1]
    refine FB.stop h hx rfl (fun Q hQ => ⟨_, c_isProg h.1.1 gp, ?_⟩)
    rw [if_neg q1]
    dsimp only
    rw [if_pos g0, if_pos rfl]
    exact hQ
end FLI
/-- whether all of ten are so, told by the first that isn't -/
def all10 (P : Nat → Prop) (j : Nat) : Prop := ∀ v, v < j → P v
/-- what apart asks of one value of the one name -/
def apP (l : List xE) (n n' v w : Nat) : Prop := 0 < xwN l n v → smR (xwB l n v n' w).toNat (xwN l n v).toNat (xwN l n' w).toNat (tot l).toNat = 1
theorem smR_01 {a b c d : Nat} : smR a b c d = 0 ∨ smR a b c d = 1 := by
  unfold smR
  split
  · exact Or.inr rfl
  · exact Or.inl rfl
section APT
variable {l : List xE} {n n' : Nat}
theorem m_apIn {A : mA} {o v : Nat} {c59 : mA → Int → Int → Nat → Int → Int → Option (Int × mA)} (hq : oQ A o) (hg : gdL 50 (oC A o)) (h0 : 0 < (oC A o).length) (hn : n < 6) (hn' : n' < 6) (hv : v < 10) : ∀ (F w : Nat), w ≤ 10 → 10 - w < F → (∀ u, u < w → apP (oC A o) n n' v u) → ((∀ u, u < 10 → apP (oC A o) n n' v u) ∧ f_Mo_apart_79 c59 F A n n' o (tot (oC A o)) v (xwN (oC A o) n v) w = c59 A n n' o (tot (oC A o)) ((v + 1 : Nat) : Int)) ∨ (¬ (∀ u, u < 10 → apP (oC A o) n n' v u) ∧ f_Mo_apart_79 c59 F A n n' o (tot (oC A o)) v (xwN (oC A o) n v) w = some (0, A)) := by
  have t0 := hg.tot0
  have tp := hg.totp h0
  have xn := xwN_nn hg.nn n (v : Int)
  intro F
  induction F with
  | zero => intro w _ h; omega
  | succ F ih =>
    intro w h1 h2 h3
    unfold f_Mo_apart_79
    rw [if_pos (show g32 (w : Int) by unfold g32; omega), show ((v : Int) + 1) = ((v + 1 : Nat) : Int) by omega]
    by_cases z : 10 ≤ w
    · rw [if_pos (show (10 : Int) ≤ (w : Int) by omega)]
      exact Or.inl ⟨fun u hu => h3 u (by omega), rfl⟩
    · rw [if_neg (show ¬ (10 : Int) ≤ (w : Int) by omega), if_pos (show g64 (xwN (oC A o) n v) by unfold g64; omega)]
      by_cases c : xwN (oC A o) n v = 0
      · have el : lc (xwN (oC A o) n v) 0 ≤ 0 := by rw [c]; decide
        rw [if_pos el]
        exact Or.inl ⟨fun u _ (q : 0 < xwN (oC A o) n v) => absurd q (by omega), rfl⟩
      · have el : ¬ lc (xwN (oC A o) n v) 0 ≤ 0 := by
          unfold lc
          rw [if_neg (by omega), if_neg c]
          decide
        have xb := xwB_nn hg.nn n (v : Int) n' (w : Int)
        have xn' := xwN_nn hg.nn n' (w : Int)
        rw [if_neg el, m_bothO hq hn hn' (show g32 (v : Int) by unfold g32; omega) (show g32 (w : Int) by unfold g32; omega), obind]
        dsimp only
        rw [m_wOf hq hn' (show g32 (w : Int) by unfold g32; omega), obind]
        dsimp only
        have sm := m_same (A := A) (a := (xwB (oC A o) n v n' w).toNat) (b := (xwN (oC A o) n v).toNat) (c := (xwN (oC A o) n' w).toNat) (d := (tot (oC A o)).toNat) (by omega) (by omega) (by omega) (by omega) (by omega) (by omega)
        rw [Int.toNat_of_nonneg xb.1, Int.toNat_of_nonneg xn.1, Int.toNat_of_nonneg xn'.1, Int.toNat_of_nonneg t0.1] at sm
        rw [sm, obind]
        dsimp only
        rcases smR_01 (a := (xwB (oC A o) n v n' w).toNat) (b := (xwN (oC A o) n v).toNat) (c := (xwN (oC A o) n' w).toNat) (d := (tot (oC A o)).toNat) with e | e
        · rw [e, if_pos (show g32 (0 : Int) by decide), if_pos rfl]
          refine Or.inr ⟨fun hall => ?_, rfl⟩
          have := hall w (by omega) (by omega)
          omega
        · rw [e, if_pos (show g32 (1 : Int) by decide), if_neg (show ¬ (1 : Int) = 0 by decide), show ((w : Int) + 1) = ((w + 1 : Nat) : Int) by omega]
          refine ih (w + 1) (by omega) (by omega) (fun u hu => ?_)
          by_cases y : u = w
          · subst y; exact fun _ => e
          · exact h3 u (by omega)
/-- what apart says -/
def apR (l : List xE) (n n' v : Nat) (z : Int) : Prop := (z = 1 ∧ ∀ v', v ≤ v' → v' < 10 → ∀ u, u < 10 → apP l n n' v' u) ∨ (z = 0 ∧ ¬ ∀ v', v ≤ v' → v' < 10 → ∀ u, u < 10 → apP l n n' v' u)
theorem apR.uniq {l l' : List xE} {z z' : Int} (h : apR l n n' 0 z) (h' : apR l' n n' 0 z') (hp : l.Perm l') : z = z' := by
  have e : ∀ v u, apP l n n' v u ↔ apP l' n n' v u := fun v u => by
    unfold apP
    rw [xwN_perm hp, xwB_perm hp, xwN_perm hp n', tot_perm hp]
  rcases h with ⟨a, b⟩ | ⟨a, b⟩ <;> rcases h' with ⟨c, d⟩ | ⟨c, d⟩
  · omega
  · exact absurd (fun v' q1 q2 u hu => (e v' u).mp (b v' q1 q2 u hu)) d
  · exact absurd (fun v' q1 q2 u hu => (e v' u).mpr (d v' q1 q2 u hu)) b
  · omega
theorem apR.next {v : Nat} {z : Int} (hv : v < 10) (hc : ∀ u, u < 10 → apP l n n' v u) (h : apR l n n' (v + 1) z) : apR l n n' v z := by
  rcases h with ⟨a, b⟩ | ⟨a, b⟩
  · refine Or.inl ⟨a, fun v' q1 q2 u hu => ?_⟩
    by_cases e : v' = v
    · subst e; exact hc u hu
    · exact b v' (by omega) q2 u hu
  · exact Or.inr ⟨a, fun y => b (fun v' q1 q2 => y v' (by omega) q2)⟩
theorem m_apOut {A : mA} {o : Nat} (hq : oQ A o) (hg : gdL 50 (oC A o)) (h0 : 0 < (oC A o).length) (hn : n < 6) (hn' : n' < 6) : ∀ (F v : Nat), v ≤ 10 → 10 - v < F → ∃ z, f_Mo_apart_59 F A n n' o (tot (oC A o)) v = some (z, A) ∧ apR (oC A o) n n' v z := by
  intro F
  induction F with
  | zero => intro v _ h; omega
  | succ F ih =>
    intro v h1 h2
    unfold f_Mo_apart_59
    rw [if_pos (show g32 (v : Int) by unfold g32; omega)]
    by_cases z : 10 ≤ v
    · rw [if_pos (show (10 : Int) ≤ (v : Int) by omega)]
      exact ⟨1, rfl, Or.inl ⟨rfl, fun v' q1 q2 => by omega⟩⟩
    · rw [if_neg (show ¬ (10 : Int) ≤ (v : Int) by omega), m_wOf hq hn (show g32 (v : Int) by unfold g32; omega), obind]
      dsimp only
      rcases m_apIn (n := n) (n' := n') (c59 := f_Mo_apart_59 F) hq hg h0 hn hn' (show v < 10 by omega) 20 0 (by omega) (by omega) (fun u hu => absurd hu (Nat.not_lt_zero u)) with ⟨c, mi⟩ | ⟨c, mi⟩
      · have mi' : f_Mo_apart_79 (f_Mo_apart_59 F) 20 A n n' o (tot (oC A o)) v (xwN (oC A o) n v) 0 = _ := mi
        rw [mi']
        obtain ⟨y, y1, y2⟩ := ih (v + 1) (by omega) (by omega)
        exact ⟨y, y1, y2.next (by omega) c⟩
      · have mi' : f_Mo_apart_79 (f_Mo_apart_59 F) 20 A n n' o (tot (oC A o)) v (xwN (oC A o) n v) 0 = _ := mi
        rw [mi']
        exact ⟨0, rfl, Or.inr ⟨rfl, fun y => c (y v (Nat.le_refl v) (by omega))⟩⟩
theorem c_apIn {C0 C : mA} {G : tG} {k x cr v : Nat} {c78 : Nat → tG → mA → Nat → Int → Int → Nat → Int → Int → wQ → Prop} {Q : wQ} (hg : gdL 50 l) (h0 : 0 < l.length) (hr1 : ∀ u : Nat, u < 10 → C 23 (C 8 x 11).toNat u = xwN l n' ((u : Nat) : Int)) (hr2 : ∀ u : Nat, u < 10 → C 23 (C 8 x 12).toNat u = xwB l n v n' ((u : Nat) : Int)) (hyes : (∀ u, u < 10 → apP l n n' v u) → c78 k G C x n n' cr (tot l) ((v + 1 : Nat) : Int) Q) (hno : ¬ (∀ u, u < 10 → apP l n n' v u) → Q 0 C G k) : ∀ (F w : Nat), w ≤ 10 → 10 - w < F → (∀ u, u < w → apP l n n' v u) → w_CS_apart_103 c78 F k G C x n n' cr (tot l) v (xwN l n v) w Q := by
  have t0 := hg.tot0
  have tp := hg.totp h0
  have xn := xwN_nn hg.nn n (v : Int)
  intro F
  induction F with
  | zero => intro w _ h; omega
  | succ F ih =>
    intro w h1 h2 h3
    unfold w_CS_apart_103
    rw [if_pos (show g32 (w : Int) by unfold g32; omega), show ((v : Int) + 1) = ((v + 1 : Nat) : Int) by omega]
    by_cases z : 10 ≤ w
    · rw [if_pos (show (10 : Int) ≤ (w : Int) by omega)]
      exact hyes (fun u hu => h3 u (by omega))
    · rw [if_neg (show ¬ (10 : Int) ≤ (w : Int) by omega), if_pos (show g64 (xwN l n v) by unfold g64; omega)]
      by_cases c : xwN l n v = 0
      · have el : lc (xwN l n v) 0 ≤ 0 := by rw [c]; decide
        rw [if_pos el]
        exact hyes (fun u _ (q : 0 < xwN l n v) => absurd q (by omega))
      · have el : ¬ lc (xwN l n v) 0 ≤ 0 := by
          unfold lc
          rw [if_neg (by omega), if_neg c]
          decide
        have xb := xwB_nn hg.nn n (v : Int) n' (w : Int)
        have xn' := xwN_nn hg.nn n' (w : Int)
        have sm := c_same (C := C) (a := (xwB l n v n' w).toNat) (b := (xwN l n v).toNat) (c := (xwN l n' w).toNat) (d := (tot l).toNat) (by omega) (by omega) (by omega) (by omega) (by omega) (by omega)
        rw [Int.toNat_of_nonneg xb.1, Int.toNat_of_nonneg xn.1, Int.toNat_of_nonneg xn'.1, Int.toNat_of_nonneg t0.1] at sm
        rw [if_neg el, if_pos (show 0 ≤ (w : Int) ∧ (w : Int) < ((10 : Nat) : Int) by omega)]
        simp only [Int.toNat_natCast]
        rw [hr1 w (by omega), hr2 w (by omega)]
        refine ⟨_, sm, ?_⟩
        dsimp only
        rcases smR_01 (a := (xwB l n v n' w).toNat) (b := (xwN l n v).toNat) (c := (xwN l n' w).toNat) (d := (tot l).toNat) with e | e
        · rw [e, if_pos (show g32 (0 : Int) by decide), if_pos rfl]
          refine hno (fun hall => ?_)
          have := hall w (by omega) (by omega)
          omega
        · rw [e, if_pos (show g32 (1 : Int) by decide), if_neg (show ¬ (1 : Int) = 0 by decide), show ((w : Int) + 1) = ((w + 1 : Nat) : Int) by omega]
          refine ih (w + 1) (by omega) (by omega) (fun u hu => ?_)
          by_cases y : u = w
          · subst y; exact fun _ => e
          · exact h3 u (by omega)
theorem c_apOut {C0 : mA} {G : tG} {k x cr : Nat} {Q : wQ} (hc : CWs C0 cr l) (hg : gdL 50 l) (h0 : 0 < l.length) (hn : n < 6) (hn' : n' < 6) (hrr : (C0 8 x 11).toNat ≠ (C0 8 x 12).toNat) (hr1 : ∀ u : Nat, u < 10 → C0 23 (C0 8 x 11).toNat u = xwN l n' ((u : Nat) : Int)) (hQ : ∀ z C', apR l n n' 0 z → (∀ f a j, f ≠ 23 → C' f a j = C0 f a j) → Q z C' G k) : ∀ (F v : Nat) (C : mA), v ≤ 10 → 10 - v < F → (∀ f a i, ¬ (f = 23 ∧ a = (C0 8 x 12).toNat) → C f a i = C0 f a i) → (∀ v', v' < v → ∀ u, u < 10 → apP l n n' v' u) → w_CS_apart_78 F k G C x n n' cr (tot l) v Q := by
  intro F
  induction F with
  | zero => intro v C _ h; omega
  | succ F ih =>
    intro v C h1 h2 hf h3
    have fin : ∀ z, apR l n n' v z → Q z C G k := fun z hz => by
      refine hQ z C ?_ (fun f a j q => hf f a j (by omega))
      rcases hz with ⟨a, b⟩ | ⟨a, b⟩
      · refine Or.inl ⟨a, fun v' _ q2 u hu => ?_⟩
        by_cases e : v' < v
        · exact h3 v' e u hu
        · exact b v' (by omega) q2 u hu
      · exact Or.inr ⟨a, fun y => b (fun v' _ q2 => y v' (Nat.zero_le _) q2)⟩
    unfold w_CS_apart_78
    rw [if_pos (show g32 (v : Int) by unfold g32; omega)]
    by_cases z : 10 ≤ v
    · rw [if_pos (show (10 : Int) ≤ (v : Int) by omega)]
      exact fin 1 (Or.inl ⟨rfl, fun v' q1 q2 => by omega⟩)
    · have hcC : CWs C cr l := hc.cg (fun j => hf 0 _ j (by omega)) (fun j => hf 31 _ j (by omega)) (fun j => hf 32 _ j (by omega))
      obtain ⟨C1, s1, s2, s3⟩ := c_where (C0 := C) (cr := cr) (row := (C 8 x 12).toNat) (nm := n) (nm' := n') (v0 := (v : Int)) hcC hn hn' (by unfold g32; omega)
      have e12 : (C 8 x 12).toNat = (C0 8 x 12).toNat := by rw [hf 8 x 12 (by omega)]
      rw [e12] at s1 s2 s3
      have hf1 : ∀ f a i, ¬ (f = 23 ∧ a = (C0 8 x 12).toNat) → C1 f a i = C0 f a i := fun f a i q => (s2 f a i q).trans (hf f a i q)
      rw [if_neg (show ¬ (10 : Int) ≤ (v : Int) by omega), e12]
      refine ⟨_, s1, ?_⟩
      have key := c_apIn (C := C1) (C0 := C0) (G := G) (k := k) (x := x) (cr := cr) (v := v) (n := n) (n' := n') (c78 := w_CS_apart_78 F) (Q := Q) hg h0 (fun u hu => by
          have e11 : C1 8 x 11 = C0 8 x 11 := hf1 8 x 11 (by clear hrr; omega)
          rw [e11, hf1 23 _ u (fun q => hrr q.2)]
          exact hr1 u hu) (fun u hu => by
          have e12' : C1 8 x 12 = C0 8 x 12 := hf1 8 x 12 (by clear hrr; omega)
          rw [e12']
          exact s3 u hu) (fun hall => ih (v + 1) C1 (by omega) (by omega) hf1 (fun v' hv' u hu => by
          by_cases e : v' = v
          · subst e; exact hall u hu
          · exact h3 v' (by omega) u hu)) (fun hno => hQ 0 C1 (Or.inr ⟨rfl, fun y => hno (y v (Nat.zero_le _) (by omega))⟩) (fun f a j q => hf1 f a j (by clear hrr; omega))) 20 0 (by omega) (by omega) (fun u hu => absurd hu (Nat.not_lt_zero u))
      exact key
end APT
