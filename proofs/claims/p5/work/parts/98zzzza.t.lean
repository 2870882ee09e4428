/-! values of formulas by their codes; what a walk over odds comes to (own work) -/
def kv1 (d : Nat → Int) (c : Int) (st : List Int) : List Int := if c < 100 then c :: st else if c < 150 then d (c - 100).toNat :: st else if c = 150 then (match st with
  | v :: r => nm32 (-v) :: r
  | [] => []) else (match st with
  | w :: v :: r => jn (c - 200) v w :: r
  | _ => [])
def kv (d : Nat → Int) : List Int → List Int → List Int
  | [], st => st
  | c :: r, st => kv d r (kv1 d c st)
theorem kv_app {d : Nat → Int} : ∀ {x y st : List Int}, kv d (x ++ y) st = kv d y (kv d x st)
  | [], _, _ => rfl
  | c :: x, y, st => kv_app (x := x) (y := y) (st := kv1 d c st)
section KV
variable {A : mA} {P : Nat} {t : Int} {d : Nat → Int}
/-- a formula's value, by its codes -/
theorem kv9 (hP : P < 6) (ht : tn9 t d) : ∀ (n : Nat) (a : Int) (c : List Int), nT A P n a c → a < 120 → ∃ v, g32 v ∧ (∀ K : Nat, a + 1 < K → f_Mo_worthN K A P a t = some (v, A)) ∧ ∀ st, kv d c st = v :: st := by
  intro n
  induction n with
  | zero => intro a c h; exact h.elim
  | succ n ih =>
    intro a c h ha
    obtain ⟨h0, h⟩ := h
    have start : ∀ (K : Nat) (r : Option (Int × mA)), wtK (f_Mo_worthN K) A P a.toNat t = r → f_Mo_worthN (K + 1) A P a t = r := fun K r e => by
      show f_Mo_worthT (f_Mo_worthN K) A P a t = r
      rw [worth_s hP (by omega) (by omega)]
      exact e
    rcases h with ⟨h1, ⟨h2, h3, h4, h5⟩, rfl⟩ | ⟨h1, ⟨h2, h3⟩, rfl⟩ | ⟨h1, h2, c1, h3, h4, rfl⟩ | ⟨h1, h2, c1, c2, h3, h4, h5, h6, rfl⟩
    · refine ⟨A 44 P a.toNat, by unfold g32; omega, fun K hK => ?_, fun st => ?_⟩
      · obtain ⟨K, rfl⟩ : ∃ q, K = q + 1 := ⟨K - 1, by omega⟩
        refine start K _ ?_
        unfold wtK
        rw [h1, if_pos (by decide), if_pos rfl, nm32_id (show g32 (A 44 P a.toNat) by unfold g32; omega)]
      · show kv1 d _ st = _
        unfold kv1
        rw [if_pos (by omega)]
    · refine ⟨d (A 44 P a.toNat).toNat, ?_, fun K hK => ?_, fun st => ?_⟩
      · have := (ht.2 (A 44 P a.toNat).toNat (by omega)).2
        unfold g32
        omega
      · obtain ⟨K, rfl⟩ : ∃ q, K = q + 1 := ⟨K - 1, by omega⟩
        refine start K _ ?_
        unfold wtK
        rw [h1, if_pos (by decide), if_neg (by decide), if_pos rfl, m_valueOf ht ⟨h2, by omega⟩, obind]
      · show kv1 d _ st = _
        unfold kv1
        rw [if_neg (by omega), if_pos (by omega), show 100 + A 44 P a.toNat - 100 = A 44 P a.toNat by omega]
    · have n1 := nT_nn h4
      obtain ⟨v, g, e1, e2⟩ := ih _ _ h4 (by omega)
      refine ⟨nm32 (-v), nm32_r _, fun K hK => ?_, fun st => ?_⟩
      · obtain ⟨K, rfl⟩ : ∃ q, K = q + 1 := ⟨K - 1, by omega⟩
        refine start K _ ?_
        unfold wtK
        rw [h1, if_pos (by decide), if_neg (by decide), if_neg (by decide), e1 K (by omega), obind, if_pos rfl]
      · rw [kv_app, e2]
        rfl
    · have n1 := nT_nn h5
      have n2 := nT_nn h6
      obtain ⟨v, gv, e1, e2⟩ := ih _ _ h5 (by omega)
      obtain ⟨w, gw, e3, e4⟩ := ih _ _ h6 (by omega)
      refine ⟨jn (A 43 P a.toNat) v w, jn_r, fun K hK => ?_, fun st => ?_⟩
      · obtain ⟨K, rfl⟩ : ∃ q, K = q + 1 := ⟨K - 1, by omega⟩
        refine start K _ ?_
        unfold wtK
        rw [if_pos (show g32 (A 43 P a.toNat) by unfold g32; omega), if_neg (by omega), if_neg (by omega), e1 K (by omega), obind, if_neg (show ¬ A 43 P a.toNat = 2 by omega)]
        show Option.bind (f_Mo_worthN K A P (A 46 P a.toNat) t) _ = _
        rw [e3 K (by omega), obind]
        show (if A 43 P a.toNat = 43 then some (nm32 (v + w), A) else (if A 43 P a.toNat = 45 then some (nm32 (v - w), A) else (if A 43 P a.toNat = 42 then some (nm32 (v * w), A) else (if A 43 P a.toNat = 37 then (if g32 w then (if w = 0 then some (0, A) else (if g32 v then (if w ≠ 0 then some (nm32 (Int.tmod v w), A) else none) else none)) else none) else (if A 43 P a.toNat = 60 then (if g32 v then if g32 w then (if w ≤ v then some (0, A) else some (1, A)) else none else none) else (if g32 v then if g32 w then (if v = w then some (1, A) else some (0, A)) else none else none)))))) = some (jn (A 43 P a.toNat) v w, A)
        generalize A 43 P a.toNat = z
        unfold jn
        by_cases k1 : z = 43
        · rw [if_pos k1, if_neg (by omega), if_neg (by omega), if_pos k1]
        rw [if_neg k1]
        by_cases k2 : z = 45
        · rw [if_pos k2, if_neg (by omega), if_neg (by omega), if_neg k1, if_pos k2]
        rw [if_neg k2]
        by_cases k3 : z = 42
        · rw [if_pos k3, if_neg (by omega), if_pos k3]
        rw [if_neg k3]
        by_cases k4 : z = 37
        · rw [if_pos k4, if_pos k4, if_pos gw]
          by_cases k : w = 0
          · rw [if_pos k, if_pos k]
          · rw [if_neg k, if_neg k, if_pos gv, if_pos k]
        rw [if_neg k4, if_neg k4, if_neg k3, if_neg k1, if_neg k2]
        by_cases k5 : z = 60
        · rw [if_pos k5, if_pos k5, if_pos gv, if_pos gw]
          by_cases k : w ≤ v
          · rw [if_pos k, if_pos k]
          · rw [if_neg k, if_neg k]
        rw [if_neg k5, if_neg k5, if_pos gv, if_pos gw]
        by_cases k : v = w
        · rw [if_pos k, if_pos k]
        · rw [if_neg k, if_neg k]
      · rw [kv_app, e2, kv_app, e4]
        show kv1 d _ _ = _
        unfold kv1
        rw [if_neg (by omega), if_neg (by omega), if_neg (by omega), show 200 + A 43 P a.toNat - 200 = A 43 P a.toNat by omega]
end KV
def xv (e : kS) (t : Int) : Int := (kv (dd t) (sC e) []).headD 0
theorem tn9.dd {t : Int} {d : Nat → Int} (h : tn9 t d) : tn9 t (dd t) := h.cg (fun j hj => (h.2 j hj).1)
section XV
variable {C A : mA} {P pr i : Nat} {s t : Int} {d : Nat → Int} {e : kS}
theorem m_xv (hP : P < 6) (hM : mS9 A P i e) (k0 : sK e ≠ 0) (k4 : sK e ≠ 4) (ht : tn9 t d) : f_Mo_worthN 121 A P (A 39 P i) t = some (xv e t, A) ∧ g32 (xv e t) ∧ 0 ≤ A 39 P i ∧ A 39 P i < 120 := by
  obtain ⟨m1, m, m2⟩ := hM.2.1 k0 k4
  have m0 := nT_nn m2
  obtain ⟨v, g, w1, w2⟩ := kv9 hP ht.dd m _ _ m2 m1
  have e1 : xv e t = v := by
    unfold xv
    rw [w2]
    rfl
  rw [e1]
  exact ⟨w1 121 (by omega), g, m0, m1⟩
theorem c_xv (hP : P < 6) (hC : cS9 C pr i e) (hM : mS9 A P i e) (k0 : sK e ≠ 0) (k4 : sK e ≠ 4) (hs : st9 s d) (ht : tn9 t d) : ∃ C', f_Prog_valueOf C pr (sAd C pr i) s = some (xv e t, C') ∧ stk (C 2 pr 7).toNat C C' 0 := by
  obtain ⟨v, C', g, a1, a2, a3, a4, a5⟩ := val_both hP hC hM k0 k4 hs ht
  have h := (m_xv hP hM k0 k4 ht).1
  rw [a3] at h
  have e1 : v = xv e t := (Prod.mk.inj (Option.some.inj h)).1
  exact ⟨C', by rw [← e1]; exact a4, a5⟩
theorem c_xd (hP : P < 6) (hC : cS9 C pr i e) (hM : mS9 A P i e) (k0 : sK e ≠ 0) (k4 : sK e ≠ 4) (hs : st9 s d) (ht : tn9 t d) : ∃ C', f_Prog_digitOf C pr (sAd C pr i) s = some (xv e t % 10, C') ∧ stk (C 2 pr 7).toNat C C' 0 := by
  obtain ⟨C', h1, h2⟩ := c_xv hP hC hM k0 k4 hs ht
  refine ⟨C', ?_, h2⟩
  unfold f_Prog_digitOf
  rw [h1, obind]
  show Option.bind (f_Math_floorMod C' (xv e t) 10) _ = _
  rw [c_floor (m_xv hP hM k0 k4 ht).2.1, obind]
end XV
/-! what a walk comes to: crowds in the order of their coming; none: WIDE -/
def wth (t : Int) (n : Nat) (v : Int) : Int := dsum (fun j => if j = n then v else dd t j)
def xDraw (e : kS) (q : xE) : List xE := (sL e).map (fun z => (wth q.1 (sN e).toNat z.1, q.2 / kSumW (sL e) * z.2))
def xLet (e : kS) (q : xE) : xE := (wth q.1 (sN e).toNat (xv e q.1 % 10), q.2)
def xRun (e : kS) (W : Int → Int → Int) (q : xE) : List xE := (List.range 10).map (fun v => (wth q.1 (sN e).toNat (v : Nat), q.2 * W (xv e q.1 % 10) (v : Nat) / 1125899906842624))
/-- the weight of those whose a has the value -/
def xw (l : List xE) (v : Int) : Int := tot (l.filter (fun q => dd q.1 0 == v))
def sBk (st : Nat → List xE → Option (List xE)) (c : Nat → kS) : Nat → Nat → Nat → List xE → Option (List xE)
  | 0, _, _, _ => none
  | n + 1, a, b, l => if a < b then (st a l).bind (fun l' => sBk st c n (a + sI (c a)) b l') else some l
def sLp (f : List xE → Option (List xE)) : Nat → List xE → Option (List xE)
  | 0, l => some l
  | n + 1, l => (f l).bind (sLp f n)
abbrev xT : Type := Nat → Nat × (Nat → kS)
def sSt (T : xT) : Nat → Nat → Nat → List xE → Option (List xE)
  | 0, _, _, _ => none
  | n + 1, P, i, l =>
    if sK ((T P).2 i) = 0 then cap9 (l.flatMap (xDraw ((T P).2 i)))
    else if sK ((T P).2 i) = 1 then cap9 (l.map (xLet ((T P).2 i)))
    else if sK ((T P).2 i) = 2 then cap9 (l.filter (fun q => xv ((T P).2 i) q.1 != 0))
    else if sK ((T P).2 i) = 3 then (sBk (sSt T n P) (T P).2 17 (i + 1) (i + sO ((T P).2 i)) (l.filter (fun q => xv ((T P).2 i) q.1 != 0))).bind (fun a => (sBk (sSt T n P) (T P).2 17 (i + sO ((T P).2 i)) (i + sI ((T P).2 i)) (l.filter (fun q => !(xv ((T P).2 i) q.1 != 0)))).bind (fun b => cap9 (a ++ b)))
    else if sK ((T P).2 i) = 4 then sLp (sBk (sSt T n P) (T P).2 17 (i + 1) (i + sI ((T P).2 i))) (sU ((T P).2 i)).toNat l
    else if l.all (fun q => (sBk (sSt T n (sU ((T P).2 i)).toNat) (T (sU ((T P).2 i)).toNat).2 17 0 (T (sU ((T P).2 i)).toNat).1 [(xv ((T P).2 i) q.1 % 10 * 100000, 1125899906842624)]).isSome) then cap9 (l.flatMap (xRun ((T P).2 i) (fun d v => xw ((sBk (sSt T n (sU ((T P).2 i)).toNat) (T (sU ((T P).2 i)).toNat).2 17 0 (T (sU ((T P).2 i)).toNat).1 [(d * 100000, 1125899906842624)]).getD []) v))) else none
/-- where a program ends that is run with a digit -/
def sRn (T : xT) (n q : Nat) (d : Int) : Option (List xE) := sBk (sSt T n q) (T q).2 17 0 (T q).1 [(d * 100000, 1125899906842624)]
/-- where a program ends -/
def sEnd (T : xT) (n q : Nat) (t : Int) : Option (List xE) := sBk (sSt T n q) (T q).2 17 0 (T q).1 [(t, 1125899906842624)]
