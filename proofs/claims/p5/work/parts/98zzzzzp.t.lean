/-! faces that ask for odds: left, odds, state, fold, likeliest of both (own work) -/
theorem xwN_perm {l l' : List xE} (h : l.Perm l') (n : Nat) (v : Int) : xwN l n v = xwN l' n v := tot_perm (h.filter _)
theorem xwB_perm {l l' : List xE} (h : l.Perm l') (n : Nat) (v : Int) (n' : Nat) (w : Int) : xwB l n v n' w = xwB l' n v n' w := tot_perm (h.filter _)
theorem xwN_c {q : xE} {l : List xE} {n : Nat} {v : Int} : xwN (q :: l) n v = (if dd q.1 n = v then q.2 else 0) + xwN l n v := by
  unfold xwN
  by_cases k : dd q.1 n = v
  · rw [if_pos k, List.filter_cons_of_pos (by simp [k])]
    rfl
  · rw [if_neg k, List.filter_cons_of_neg (by simp [k])]
    omega
theorem s10_eq {d x : Int} (hd : 0 ≤ d ∧ d ≤ 9) : s10 (fun v => if d = ((v : Nat) : Int) then x else 0) = x := by
  unfold s10
  have h : d = 0 ∨ d = 1 ∨ d = 2 ∨ d = 3 ∨ d = 4 ∨ d = 5 ∨ d = 6 ∨ d = 7 ∨ d = 8 ∨ d = 9 := by omega
  rcases h with rfl | rfl | rfl | rfl | rfl | rfl | rfl | rfl | rfl | rfl
  all_goals simp
theorem xwN_sum {l : List xE} {n : Nat} : s10 (fun v => xwN l n ((v : Nat) : Int)) = tot l := by
  induction l with
  | nil => rfl
  | cons q l ih =>
    have h3 := s10_eq (d := dd q.1 n) (x := q.2) (dd_r _ _)
    unfold s10 at ih h3 ⊢
    simp only [xwN_c, tot] at ih h3 ⊢
    omega
theorem xwN_nn {l : List xE} (h : ∀ q ∈ l, 0 ≤ q.2) (n : Nat) (v : Int) : 0 ≤ xwN l n v ∧ xwN l n v ≤ tot l := tot_filter h
theorem xwB_nn {l : List xE} (h : ∀ q ∈ l, 0 ≤ q.2) (n : Nat) (v : Int) (n' : Nat) (w : Int) : 0 ≤ xwB l n v n' w ∧ xwB l n v n' w ≤ tot l := tot_filter h
theorem gdL.tot0 {B : Int} {l : List xE} (h : gdL B l) : 0 ≤ tot l ∧ tot l ≤ 1125899906842624 := ⟨tot_nn h.nn, h.2.2⟩
theorem gdL.totp {B : Int} {l : List xE} (h : gdL B l) (h0 : 0 < l.length) : 0 < tot l := by
  cases l with
  | nil => exact absurd h0 (Nat.lt_irrefl 0)
  | cons q l =>
    have h1 := (h.2.1 q List.mem_cons_self).2.1
    have h2 := tot_nn (fun z hz => h.nn z (List.mem_cons_of_mem _ hz))
    simp only [tot]
    omega
/-- part and whole, by lowest terms, of both -/
def lowI (a b p : Int) : Int := (lowN a.toNat b.toNat p : Int)
theorem low_both {C A : mA} {a b p : Int} (gp : g32 p) (ha : 0 ≤ a ∧ a < 4611686018427387904) (hb : 0 < b ∧ b < 4611686018427387904) : f_CS_partOf C a b p = some (lowI a b p, C) ∧ f_Mo_lowest A a b p = some (lowI a b p, A) := by
  have h := part_both (C := C) (A := A) (a := a.toNat) (b := b.toNat) gp (by omega) (by omega) (by omega)
  rw [Int.toNat_of_nonneg ha.1, Int.toNat_of_nonneg (by omega)] at h
  exact h
section FEN
variable {D : va_G} {Gt G : tG} {C A : mA} {w : jW} {x sl hm k : Nat} {T : xT} {F : Option (Int × mA)} {W : wQ → Prop}
/-- what is said behind a program's end -/
theorem FB.ofEnd (hw : hW D Gt C w) (gx : Gt x = some 8) (h : R9 x C A) (hx : WX x G C A T sl hm) {p : Nat} (hp : (p : Int) < A 0 0 0) (hk : rmK x C ≤ k) {Fc : mA → Option (Int × mA)} {Wc : Int → mA → tG → Nat → wQ → Prop} (hF : ∀ A', f_Mo_oddsO A p (-1) = some (1, A') → F = Fc A') (hW : ∀ Q : wQ, w_CS_endOf k G C x p (fun r A9 G9 k9 => Wc r A9 G9 k9 Q) → W Q)
    (hwide : ∀ A', A' 0 0 34 = 1 → ∃ z, Fc A' = some (z, A') ∧ ∀ (C9 : mA) (G9 : tG) (k9 : Nat) (Q : wQ), Q z C9 G9 k9 → Wc (-1) C9 G9 k9 Q)
    (hsome : ∀ A', A' 0 0 34 = 0 → oQ A' 1 → gdL 50 (oC A' 1) → ∃ z, Fc A' = some (z, A') ∧ ∀ (C9 : mA) (G9 : tG) (k9 cr : Nat) (l : List xE) (Q : wQ), CWs C9 cr l → gdL 50 l → (oC A' 1).Perm l → (C9 8 x 11).toNat ≠ (C9 8 x 12).toNat → (∀ C', (∀ f a j, f ≠ 23 → C' f a j = C9 f a j) → Q z C' G9 k9) → Wc cr C9 G9 k9 Q) : FB x G C A T sl hm k F W := by
  obtain ⟨A', a1, a2, -, a3, a4, a5⟩ := both_end hw gx h hx hp hk
  rw [hF A' a1]
  rcases a4 with ⟨y, y2⟩ | y
  · obtain ⟨z, z1, z2⟩ := hsome A' y a3 y2
    refine ⟨z, A', z1, a2, fun Q hQ => hW Q (a5 _ (fun r k' G' C' b1 b2 b3 b4 b5 b6 => ?_))⟩
    rcases b6 with ⟨-, b6⟩ | ⟨-, cr, l, b6, b7, b8, -, b9⟩
    · omega
    · rw [b6]
      refine z2 C' G' k' cr l Q b7 b8 b9 b2.2.1.2.2 (fun C'' hf => ?_)
      obtain ⟨c1, c2, c3, c4⟩ := WX.row hw gx h b4 b1 b2 a2 hf
      exact hQ k' G' C'' c1 c2 b3 c3 (by rw [c4]; exact b5)
  · obtain ⟨z, z1, z2⟩ := hwide A' y
    refine ⟨z, A', z1, a2, fun Q hQ => hW Q (a5 _ (fun r k' G' C' b1 b2 b3 b4 b5 b6 => ?_))⟩
    rcases b6 with ⟨b6, -⟩ | ⟨b6, -⟩
    · rw [b6]
      exact z2 C' G' k' Q (hQ k' G' C' b1 b2 b3 b4 b5)
    · omega
theorem left_both (hw : hW D Gt C w) (gx : Gt x = some 8) (h : R9 x C A) (hx : WX x G C A T sl hm) {p v : Int} (gp : g32 p) (gv : g32 v) (hk : rmK x C ≤ k) : FB x G C A T sl hm k (f_Mo_left A p v) (w_CS_left k G C x p v) := by
  obtain ⟨-, ⟨b1, b2, b3⟩, -⟩ := id h.1.1
  unfold f_Mo_left w_CS_left
  rw [m_isProg ⟨b2, b3⟩ gp, obind]
  by_cases q1 : 0 ≤ p ∧ p < A 0 0 0
  · rw [if_pos q1]
    dsimp only
    rw [if_pos (show g32 (1 : Int) by decide), if_neg (show ¬ (1 : Int) = 0 by decide), m_inF gv (by decide) (by decide), obind]
    by_cases q2 : 0 ≤ v ∧ v ≤ 1
    · rw [if_pos q2]
      dsimp only
      rw [if_pos (show g32 (1 : Int) by decide), if_neg (show ¬ (1 : Int) = 0 by decide)]
      obtain ⟨P, rfl⟩ : ∃ P : Nat, p = P := ⟨p.toNat, by omega⟩
      refine FB.ofEnd hw gx h hx q1.2 hk (Fc := fun A' => if g32 (A' 0 0 34) then (if (A' 0 0 34) = 0 then (Option.bind (f_Odds_all A' 1) (fun q14 => (Option.bind (f_Mo_lowest q14.2 q14.1 1125899906842624 v) (fun q16 => (some (q16.1, q16.2)))))) else (some ((-4611686018427387904), A'))) else none) (Wc := fun r9 A10 G11 k12 Q => (if 0 ≤ r9 then (∃ q19, f_Crowd_weight A10 r9.toNat = some q19 ∧ (∃ q21, f_CS_partOf q19.2 q19.1 1125899906842624 v = some q21 ∧ (Q q21.1 q21.2 G11 k12))) else (Q (-4611686018427387904) A10 G11 k12))) (fun A' e => by rw [e, obind]; rfl) (fun Q hQ => ?_) (fun A' e => ?_) (fun A' e hq hg => ?_)
      · refine ⟨_, c_isProg h.1.1 gp, ?_⟩
        rw [if_pos q1]
        dsimp only
        rw [if_pos (show g32 (1 : Int) by decide), if_neg (show ¬ (1 : Int) = 0 by decide)]
        refine ⟨_, c_isPart gv, ?_⟩
        rw [if_pos q2]
        dsimp only
        rw [if_pos (show g32 (1 : Int) by decide), if_neg (show ¬ (1 : Int) = 0 by decide)]
        exact hQ
      · rw [e]
        exact ⟨_, rfl, fun _ _ _ _ hQ => by rw [if_neg (by decide)]; exact hQ⟩
      · have t0 := hg.tot0
        rw [e, if_pos (show g32 0 by decide), if_pos rfl, m_allO hq, obind]
        dsimp only
        rw [(low_both (C := A') (a := tot (oC A' 1)) (b := 1125899906842624) gv (by omega) (by decide)).2, obind]
        refine ⟨_, rfl, fun C9 G9 k9 cr l Q hc hgl hp _ hQ => ?_⟩
        rw [if_pos (Int.natCast_nonneg cr), Int.toNat_natCast]
        refine ⟨_, c_weight hc, _, (low_both (A := A') (a := tot l) (b := 1125899906842624) gv (by have := hgl.tot0; omega) (by decide)).1, ?_⟩
        dsimp only
        rw [← tot_perm hp]
        exact hQ C9 (fun _ _ _ _ => rfl)
    · rw [if_neg q2]
      refine FB.stop h hx rfl (fun Q hQ => ⟨_, c_isProg h.1.1 gp, ?_⟩)
      rw [if_pos q1]
      dsimp only
      rw [if_pos (show g32 (1 : Int) by decide), if_neg (show ¬ (1 : Int) = 0 by decide)]
      refine ⟨_, c_isPart gv, ?_⟩
      rw [if_neg q2]
      dsimp only
      rw [if_pos (show g32 (0 : Int) by decide), if_pos rfl]
      exact hQ
  · rw [if_neg q1]
    refine FB.stop h hx rfl (fun Q hQ => ⟨_, c_isProg h.1.1 gp, ?_⟩)
    rw [if_neg q1]
    dsimp only
    rw [if_pos (show g32 (0 : Int) by decide), if_pos rfl]
    exact hQ
theorem many0 {C9 : mA} {cr : Nat} {l : List xE} {o : Nat} {A' : mA} (hc : CWs C9 cr l) (hq : oQ A' o) (hp : (oC A' o).Perm l) : C9 0 cr 2 = A' 1 o 2 := by
  rw [hc.2.2.1, oC_many hq, hp.length_eq]
theorem odds_both (hw : hW D Gt C w) (gx : Gt x = some 8) (h : R9 x C A) (hx : WX x G C A T sl hm) {p n v t : Int} (gp : g32 p) (gn : g32 n) (gv : g32 v) (gt : g32 t) (hk : rmK x C ≤ k) : FB x G C A T sl hm k (f_Mo_odds A p n v t) (w_CS_odds k G C x p n v t) := by
  obtain ⟨-, ⟨b1, b2, b3⟩, -⟩ := id h.1.1
  unfold f_Mo_odds w_CS_odds
  have g1 : g32 (1 : Int) := by decide
  have g0 : g32 (0 : Int) := by decide
  have n1 : ¬ (1 : Int) = 0 := by decide
  rw [m_isProg ⟨b2, b3⟩ gp, obind]
  by_cases q1 : 0 ≤ p ∧ p < A 0 0 0
  · rw [if_pos q1]
    dsimp only
    rw [if_pos g1, if_neg n1, m_isName gn, obind]
    by_cases q2 : 0 ≤ n ∧ n ≤ 5
    · have q2' : 0 ≤ n ∧ n < 6 := by omega
      rw [if_pos q2]
      dsimp only
      rw [if_pos g1, if_neg n1, m_inF gv (by decide) (by decide), obind]
      by_cases q3 : 0 ≤ v ∧ v ≤ 9
      · have q3' : 0 ≤ v ∧ v < 10 := by omega
        rw [if_pos q3]
        dsimp only
        rw [if_pos g1, if_neg n1, m_inF gt (by decide) (by decide), obind]
        by_cases q4 : 0 ≤ t ∧ t ≤ 1
        · rw [if_pos q4]
          dsimp only
          rw [if_pos g1, if_neg n1]
          obtain ⟨P, rfl⟩ : ∃ P : Nat, p = P := ⟨p.toNat, by omega⟩
          obtain ⟨N, rfl⟩ : ∃ N : Nat, n = N := ⟨n.toNat, by omega⟩
          obtain ⟨V, rfl⟩ : ∃ V : Nat, v = V := ⟨v.toNat, by omega⟩
          refine FB.ofEnd hw gx h hx q1.2 hk (Fc := fun A' => (Option.bind (f_Mo_against A' 1) (fun q20 => (if g32 q20.1 then (if q20.1 = 0 then (Option.bind (f_Mo_weightOf q20.2 1 N V) (fun q24 => (Option.bind (f_Odds_all q24.2 1) (fun q26 => (Option.bind (f_Mo_lowest q26.2 q24.1 q26.1 t) (fun q28 => (some (q28.1, q28.2)))))))) else (some ((-4611686018427387904), q20.2))) else none)))) (Wc := fun r17 A18 G19 k20 Q => (if 0 ≤ r17 then (if g32 (A18 0 r17.toNat 2) then (if (A18 0 r17.toNat 2) = 0 then (Q (-4611686018427387904) A18 G19 k20) else (∃ q30, f_Crowd_spread A18 r17.toNat N ((A18 8 x 11).toNat) = some q30 ∧ (if (0 ≤ (V : Int) ∧ (V : Int) < ((10 : Nat) : Int)) then (∃ q34, f_Crowd_weight q30.2 r17.toNat = some q34 ∧ (∃ q36, f_CS_partOf q34.2 (q30.2 23 ((q30.2 8 x 11).toNat) ((V : Int)).toNat) q34.1 t = some q36 ∧ (Q q36.1 q36.2 G19 k20))) else False))) else False) else (Q (-4611686018427387904) A18 G19 k20))) (fun A' e => by rw [e, obind]; rfl) (fun Q hQ => ?_) (fun A' e => ?_) (fun A' e hq hg => ?_)
          · refine ⟨_, c_isProg h.1.1 gp, ?_⟩
            rw [if_pos q1]
            dsimp only
            rw [if_pos g1, if_neg n1]
            refine ⟨_, c_isName gn, ?_⟩
            rw [if_pos q2']
            dsimp only
            rw [if_pos g1, if_neg n1]
            refine ⟨_, c_isValue gv, ?_⟩
            rw [if_pos q3']
            dsimp only
            rw [if_pos g1, if_neg n1]
            refine ⟨_, c_isPart gt, ?_⟩
            rw [if_pos q4]
            dsimp only
            rw [if_pos g1, if_neg n1]
            exact hQ
          · unfold f_Mo_against
            rw [e, if_pos g1, if_neg n1, obind]
            exact ⟨_, rfl, fun _ _ _ _ hQ => by rw [if_neg (by decide)]; exact hQ⟩
          · have many := oC_many hq
            have hl := hq.1
            unfold f_Mo_against
            rw [e, if_pos g0, if_pos rfl, if_pos (show g32 (A' 1 1 2) by unfold g32; omega)]
            by_cases z : A' 1 1 2 = 0
            · rw [if_pos z, obind]
              refine ⟨_, rfl, fun C9 G9 k9 cr l Q hc hgl hp _ hQ => ?_⟩
              have m0 := many0 hc hq hp
              rw [if_pos (Int.natCast_nonneg cr), Int.toNat_natCast, m0, if_pos (show g32 (A' 1 1 2) by unfold g32; omega), if_pos z]
              exact hQ C9 (fun _ _ _ _ => rfl)
            · rw [if_neg z, obind]
              dsimp only
              have tp := hg.totp (by omega)
              have t0 := hg.tot0
              have wn := xwN_nn hg.nn N (V : Int)
              rw [if_pos g0, if_pos rfl, m_wOf hq (by omega) gv, obind]
              dsimp only
              rw [m_allO hq, obind]
              dsimp only
              rw [(low_both (C := A') (a := xwN (oC A' 1) N V) (b := tot (oC A' 1)) gt (by omega) (by omega)).2, obind]
              refine ⟨_, rfl, fun C9 G9 k9 cr l Q hc hgl hp _ hQ => ?_⟩
              have m0 := many0 hc hq hp
              obtain ⟨C', s1, s2, s3⟩ := c_spread (C0 := C9) (cr := cr) (row := (C9 8 x 11).toNat) (nm := N) hc.g2 (by omega)
              have hc' : CWs C' cr l := hc.cg (fun j => s2 0 _ j (by omega)) (fun j => s2 31 _ j (by omega)) (fun j => s2 32 _ j (by omega))
              rw [if_pos (Int.natCast_nonneg cr), Int.toNat_natCast, m0, if_pos (show g32 (A' 1 1 2) by unfold g32; omega), if_neg z]
              refine ⟨_, s1, ?_⟩
              dsimp only
              rw [if_pos (show 0 ≤ (V : Int) ∧ (V : Int) < ((10 : Nat) : Int) by omega), Int.toNat_natCast, s2 8 x 11 (by omega), s3 l hc V (by omega)]
              refine ⟨_, c_weight hc', _, (low_both (A := A') (a := xwN l N V) (b := tot l) gt (by rw [← xwN_perm hp]; omega) (by rw [← tot_perm hp]; omega)).1, ?_⟩
              dsimp only
              rw [← xwN_perm hp, ← tot_perm hp]
              exact hQ C' (fun f a j y => s2 f a j (by omega))
        · rw [if_neg q4]
          refine FB.stop h hx rfl (fun Q hQ => ⟨_, c_isProg h.1.1 gp, ?_⟩)
          rw [if_pos q1]
          dsimp only
          rw [if_pos g1, if_neg n1]
          refine ⟨_, c_isName gn, ?_⟩
          rw [if_pos q2']
          dsimp only
          rw [if_pos g1, if_neg n1]
          refine ⟨_, c_isValue gv, ?_⟩
          rw [if_pos q3']
          dsimp only
          rw [if_pos g1, if_neg n1]
          refine ⟨_, c_isPart gt, ?_⟩
          rw [if_neg q4]
          dsimp only
          rw [if_pos g0, if_pos rfl]
          exact hQ
      · have q3' : ¬ (0 ≤ v ∧ v < 10) := by omega
        rw [if_neg q3]
        refine FB.stop h hx rfl (fun Q hQ => ⟨_, c_isProg h.1.1 gp, ?_⟩)
        rw [if_pos q1]
        dsimp only
        rw [if_pos g1, if_neg n1]
        refine ⟨_, c_isName gn, ?_⟩
        rw [if_pos q2']
        dsimp only
        rw [if_pos g1, if_neg n1]
        refine ⟨_, c_isValue gv, ?_⟩
        rw [if_neg q3']
        dsimp only
        rw [if_pos g0, if_pos rfl]
        exact hQ
    · have q2' : ¬ (0 ≤ n ∧ n < 6) := by omega
      rw [if_neg q2]
      refine FB.stop h hx rfl (fun Q hQ => ⟨_, c_isProg h.1.1 gp, ?_⟩)
      rw [if_pos q1]
      dsimp only
      rw [if_pos g1, if_neg n1]
      refine ⟨_, c_isName gn, ?_⟩
      rw [if_neg q2']
      dsimp only
      rw [if_pos g0, if_pos rfl]
      exact hQ
  · rw [if_neg q1]
    refine FB.stop h hx rfl (fun Q hQ => ⟨_, c_isProg h.1.1 gp, ?_⟩)
    rw [if_neg q1]
    dsimp only
    rw [if_pos g0, if_pos rfl]
    exact hQ
end FEN
