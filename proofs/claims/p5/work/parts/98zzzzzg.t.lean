/-! the class's walk: RUN (own work) -/
theorem cap_nz {x : List xE} : cap9 (nz x) = cap9 x := by
  unfold cap9
  rw [show nz (nz x) = nz x from List.filter_eq_self.mpr (fun q hq => (List.mem_filter.mp hq).2)]
theorem nz_app {x y : List xE} : nz (x ++ y) = nz x ++ nz y := List.filter_append _ _
theorem share_eq {B b x y : Int} (hB : 0 ≤ B) (hb : 0 ≤ b) (h50 : B + b ≤ 50) (hx : 0 ≤ x ∧ x ≤ 1125899906842624) (hy : 0 ≤ y ∧ y ≤ 1125899906842624) (dx : dv B ∣ x) (dy : dv b ∣ y) : lShr x b * lShr y (50 - b) = x * y / 1125899906842624 := by
  obtain ⟨n, rfl⟩ : ∃ n : Nat, b = n := ⟨b.toNat, by omega⟩
  have e1 : lShr x (n : Int) = x / 2 ^ n := lShr_x (by unfold g64; omega) (by omega)
  have e2 : lShr y (50 - (n : Int)) = y / 2 ^ (50 - n) := by
    have : 50 - (n : Int) = ((50 - n : Nat) : Int) := by omega
    rw [this]
    exact lShr_x (by unfold g64; omega) (by omega)
  have d1 : (2 : Int) ^ n ∣ x := by
    refine Int.dvd_trans ?_ dx
    unfold dv
    refine ⟨(2 : Int) ^ ((50 - B).toNat - n), ?_⟩
    rw [← Int.pow_add]
    congr 1
    omega
  have d2 : (2 : Int) ^ (50 - n) ∣ y := by
    refine Int.dvd_trans ?_ dy
    unfold dv
    rw [show (50 - (n : Int)).toNat = 50 - n by omega]
    exact Int.dvd_refl _
  obtain ⟨c, rfl⟩ := d1
  obtain ⟨c', rfl⟩ := d2
  have p1 : (2 : Int) ^ n ≠ 0 := Int.ne_of_gt (Int.pow_pos (by decide))
  have p2 : (2 : Int) ^ (50 - n) ≠ 0 := Int.ne_of_gt (Int.pow_pos (by decide))
  rw [e1, e2, Int.mul_ediv_cancel_left _ p1, Int.mul_ediv_cancel_left _ p2]
  have e3 : (2 : Int) ^ n * c * ((2 : Int) ^ (50 - n) * c') = 1125899906842624 * (c * c') := by
    have e4 : (2 : Int) ^ n * (2 : Int) ^ (50 - n) = 1125899906842624 := by
      rw [← Int.pow_add, show n + (50 - n) = 50 by omega]
      decide
    calc (2 : Int) ^ n * c * ((2 : Int) ^ (50 - n) * c') = ((2 : Int) ^ n * (2 : Int) ^ (50 - n)) * (c * c') := by
          rw [Int.mul_assoc, Int.mul_assoc, ← Int.mul_assoc c, Int.mul_comm c, Int.mul_assoc ((2 : Int) ^ (50 - n)) c]
      _ = _ := by rw [e4]
  rw [e3, Int.mul_ediv_cancel_left _ (by decide)]
theorem c_rWt {C : mA} {ru D v : Nat} (hD : D < 10) (hv : v < 10) : f_Runs_weight C ru D v = some (C 29 (C 4 ru 1).toNat (D * 10 + v), C) := by
  unfold f_Runs_weight
  rw [c_isValue (show g32 (D : Int) by unfold g32; omega), obind, if_pos (show 0 ≤ (D : Int) ∧ (D : Int) < 10 by omega)]
  show (if g32 (1 : Int) then (if (1 : Int) = 0 then (some (0, C)) else (Option.bind (f_CS_isValue C (v : Int)) (fun q5 => (if g32 q5.1 then (if q5.1 = 0 then (some (0, q5.2)) else (if (0 ≤ (((D : Int) * 10) + (v : Int)) ∧ (((D : Int) * 10) + (v : Int)) < ((100 : Nat) : Int)) then (some ((q5.2 29 ((q5.2 4 ru 1).toNat) ((((D : Int) * 10) + (v : Int)).toNat)), q5.2)) else none)) else none)))) else none) = _
  have ej : (D : Int) * 10 + (v : Int) = ((D * 10 + v : Nat) : Int) := by omega
  rw [if_pos (show g32 (1 : Int) by decide), if_neg (show ¬ (1 : Int) = 0 by decide), c_isValue (show g32 (v : Int) by unfold g32; omega), obind, if_pos (show 0 ≤ (v : Int) ∧ (v : Int) < 10 by omega), ej]
  show (if g32 (1 : Int) then (if (1 : Int) = 0 then (some (0, C)) else (if (0 ≤ ((D * 10 + v : Nat) : Int) ∧ ((D * 10 + v : Nat) : Int) < ((100 : Nat) : Int)) then (some ((C 29 ((C 4 ru 1).toNat) (((D * 10 + v : Nat) : Int)).toNat), C)) else none)) else none) = _
  rw [if_pos (show g32 (1 : Int) by decide), if_neg (show ¬ (1 : Int) = 0 by decide), if_pos (show 0 ≤ ((D * 10 + v : Nat) : Int) ∧ ((D * 10 + v : Nat) : Int) < ((100 : Nat) : Int) by omega), Int.toNat_natCast]
section WRN
variable {o m sp sl hm : Nat} {T : xT} {b sE : Int → Int} {cnt : Nat} {pa : Nat → Nat} {G : tG} {C C' M C0 : mA} {L k cr : Nat} {wst : Nat → tG → mA → Nat → Nat → Int → Nat → Int → Int → wQ → Prop} {st wt sc wc sk : Nat}

set_option maxHeartbeats 1000000 in
theorem w_r126 {c77 : Nat → tG → mA → Nat → Nat → Nat → Nat → Nat → Int → Int → wQ → Prop} {pr sa ran j D : Nat} {Mk B b' : Int} {q : xE} {e : kS} {W : Int → Int → Int} {X Z l : List xE} {Q : wQ} (hw : (C0 7 o 0).toNat = m) (hM : okM Mk (rho Mk)) (hc : CW C0 cr sc wc l) (h3 : g32 (C0 0 cr 3)) (q1 : sc ≠ st) (q2 : sc ≠ hm) (q3 : wc ≠ wt) (hj : j < l.length) (hq : l[j] = q) (hD : D < 10) (hn : 0 ≤ sN e ∧ sN e < 6) (hB : 0 ≤ B) (hb' : 0 ≤ b') (h50 : B + b' ≤ 50) (e1 : C0 6 sa 1 = sN e) (e8 : C0 2 ran 8 = b') (e29 : ∀ v : Nat, v < 10 → C0 29 (wWw C0 ran) (D * 10 + v) = W (xv e q.1 % 10) ((v : Nat) : Int)) (hW : okW b' (fun v => W (xv e q.1 % 10) ((v : Nat) : Int))) (hq2 : 0 ≤ q.2 ∧ q.2 ≤ 1125899906842624) (hq3 : dv B ∣ q.2)
    (hk : ∀ C', inG m cr st wt sl hm sk C0 C' → MX C' m st wt sl hm (rmp (rho Mk) (nz (X ++ xRun e W q))) → c77 k G C' o pr sa cr ran Mk ((j : Int) + 1) Q) (hfail : ∀ C', oRes m cr st wt sl hm sc wc sk C0 (rmp (rho Mk) (nz (X ++ (xRun e W q ++ Z)))) 0 C' → Q 0 C' G k) : ∀ (F v : Nat) (C : mA), v ≤ 10 → 10 - v < F → inG m cr st wt sl hm sk C0 C → MX C m st wt sl hm (rmp (rho Mk) (nz (X ++ (xRun e W q).take v))) → w_Walk_walkRun_126 wst c77 F k G C o pr sa cr ran Mk j D (lShr q.2 b') v Q := by
  have hlen : (xRun e W q).length = 10 := by unfold xRun; rw [List.length_map, List.length_range]
  intro F
  induction F with
  | zero => intro v C _ h; omega
  | succ F ih =>
    intro v C h1 h2 hin hX
    unfold w_Walk_walkRun_126
    rw [if_pos (show g32 (v : Int) by unfold g32; omega)]
    by_cases z : 10 ≤ v
    · rw [if_pos (show (10 : Int) ≤ v by omega)]
      rw [List.take_of_length_le (by omega)] at hX
      exact hk C hin hX
    · have ev : ((v : Int) + 1) = ((v + 1 : Nat) : Int) := by omega
      have hcC : CW C cr sc wc l := hcr hin hc q1 q2 q3
      obtain ⟨a1, a2⟩ := CW.at hcC hj
      rw [hq] at a1
      have f2 : ∀ f a i, f = 2 ∨ f = 4 ∨ f = 6 ∨ f = 29 ∨ f = 7 → C f a i = C0 f a i := fun f a i y => hin.1 f a i (by omega)
      have wl : 0 ≤ W (xv e q.1 % 10) (v : Int) ∧ W (xv e q.1 % 10) (v : Int) ≤ 1125899906842624 := hW.le (v := v) (by omega)
      have wd1 : dv b' ∣ W (xv e q.1 % 10) (v : Int) := (hW.1 v).2
      obtain ⟨w, hwd⟩ : ∃ w, w = q.2 * W (xv e q.1 % 10) (v : Int) / 1125899906842624 := ⟨_, rfl⟩
      have p0 : 0 ≤ q.2 * W (xv e q.1 % 10) (v : Int) := Int.mul_nonneg hq2.1 wl.1
      have p1 : w ≤ q.2 := by rw [hwd]; exact Int.ediv_le_of_le_mul (by decide) (Int.mul_le_mul_of_nonneg_left wl.2 hq2.1)
      have p2 : 0 ≤ w := by rw [hwd]; exact Int.ediv_nonneg p0 (by decide)
      have e29' : C 29 (C 4 ((C 2 ran 12).toNat) 1).toNat (D * 10 + v) = W (xv e q.1 % 10) (v : Int) := by
        rw [f2 2 ran 12 (Or.inl rfl), f2 4 _ 1 (Or.inr (Or.inl rfl)), f2 29 _ _ (Or.inr (Or.inr (Or.inr (Or.inl rfl))))]
        exact e29 v (by omega)
      have esh : lShr q.2 b' * lShr (W (xv e q.1 % 10) (v : Int)) (50 - b') = w := by rw [hwd]; exact share_eq hB hb' h50 hq2 wl hq3 wd1
      have egt : (xRun e W q)[v]'(by omega) = (wth q.1 (sN e).toNat (v : Nat), w) := by
        unfold xRun
        rw [List.getElem_map, List.getElem_range, hwd]
      have etk : (xRun e W q).take (v + 1) = (xRun e W q).take v ++ [(wth q.1 (sN e).toNat (v : Nat), w)] := by rw [take_s (L := xRun e W q) (by omega), egt]
      have edr : xRun e W q = (xRun e W q).take v ++ (wth q.1 (sN e).toNat (v : Nat), w) :: (xRun e W q).drop (v + 1) := by
        have := List.take_append_drop v (xRun e W q)
        rw [drop_s (L := xRun e W q) (by omega), egt] at this
        exact this.symm
      have e8' : C 2 ran 8 = b' := (f2 2 ran 8 (Or.inl rfl)).trans e8
      have gw : g64 w := by clear q1 q2 q3; unfold g64; omega
      have eW : lShr q.2 b' * lShr (C 29 (C 4 ((C 2 ran 12).toNat) 1).toNat (D * 10 + v)) (50 - C 2 ran 8) = w := by rw [e29', e8', esh]
      rw [if_neg (show ¬ (10 : Int) ≤ v by clear q1 q2 q3; omega)]
      refine ⟨(C 29 (C 4 ((C 2 ran 12).toNat) 1).toNat (D * 10 + v), C), c_rWt hD (Nat.lt_of_not_le z), ?_⟩
      dsimp only
      rw [eW, if_pos gw]
      by_cases y : w = 0
      · have hl0 : lc w 0 ≤ 0 := by rw [y]; decide
        rw [if_pos hl0, ev]
        refine ih (v + 1) C (by omega) (by omega) hin ?_
        rw [etk, ← List.append_assoc, nz_app]
        have : nz [((wth q.1 (sN e).toNat (v : Nat), w) : xE)] = [] := by simp [nz, y]
        rw [this, List.append_nil]
        exact hX
      · have hl1 : ¬ lc w 0 ≤ 0 := by
          unfold lc
          rw [if_neg (by omega), if_neg y]
          decide
        have nzw : nz [((wth q.1 (sN e).toNat (v : Nat), w) : xE)] = [(wth q.1 (sN e).toNat (v : Nat), w)] := by simp [nz, y]
        rw [if_neg hl1, if_pos (show 0 ≤ (j : Int) ∧ (j : Int) < ((300 : Nat) : Int) by have := hc.len; omega), Int.toNat_natCast]
        refine ⟨(wd (C 31 (C 0 cr 0).toNat j) (C 6 sa 1) v, C), rfl, ?_⟩
        have ecr : (C 0 cr 0).toNat = sc := hcC.1
        rw [ecr, f2 6 sa 1 (Or.inr (Or.inr (Or.inl rfl))), e1]
        have b1 : ud (C 31 sc j) = q.1 := by rw [a1]
        obtain ⟨v1, v2⟩ := wd_ud a2 hn (v := (v : Int)) (by omega)
        rw [b1] at v2
        obtain ⟨m1, m2⟩ := hM _ v1
        rw [v2] at m2
        obtain ⟨r, C1, x1, x2, x3⟩ := op_put (Y := rmp (rho Mk) (nz ((xRun e W q).drop (v + 1) ++ Z))) (v := w) hin hX hc h3 m1 _ m2
        refine ⟨(r, C1), by show f_Mixer_put C (C 7 o 0).toNat _ w = _; rw [f2 7 o 0 (Or.inr (Or.inr (Or.inr (Or.inr rfl)))), hw]; exact x1, ?_⟩
        rcases x3 with ⟨rfl, x3⟩ | ⟨rfl, x3⟩
        · rw [if_pos (show g32 (1 : Int) by decide), if_neg (show ¬ (1 : Int) = 0 by decide), ev]
          refine ih (v + 1) C1 (by omega) (by omega) x2 ?_
          rw [etk, ← List.append_assoc, nz_app, nzw, rmp_app]
          exact x3
        · rw [if_pos (show g32 (0 : Int) by decide), if_pos rfl]
          refine hfail C1 ?_
          have et : X ++ (xRun e W q ++ Z) = (X ++ (xRun e W q).take v) ++ ([((wth q.1 (sN e).toNat (v : Nat), w) : xE)] ++ ((xRun e W q).drop (v + 1) ++ Z)) := by
            conv => lhs; rw [edr]
            simp
          rw [et, nz_app, nz_app (x := [((wth q.1 (sN e).toNat (v : Nat), w) : xE)]), nzw, rmp_app, rmp_app]
          exact x3
theorem w_r77 {pr sa ran p i : Nat} {Mk B b' : Int} {e : kS} {W : Int → Int → Int} {l : List xE} {Q : wQ} (hP : p < 6) (hC : cS9 C0 pr i e) (hA : mS9 M p i e) (k5 : sK e = 5) (hsa : sAd C0 pr i = sa) (hsk : (C0 2 pr 7).toNat = sk) (hw : (C0 7 o 0).toNat = m) (hM : okM Mk (rho Mk)) (hc : CW C0 cr sc wc l) (h3 : g32 (C0 0 cr 3)) (q1 : sc ≠ st) (q2 : sc ≠ hm) (q3 : wc ≠ wt) (hn : 0 ≤ sN e ∧ sN e < 6) (hB : 0 ≤ B) (hb' : 0 ≤ b') (h50 : B + b' ≤ 50) (hl : gdL B l) (e8 : C0 2 ran 8 = b') (e29 : ∀ q ∈ l, ∀ D : Nat, xv e q.1 % 10 = D → ∀ v : Nat, v < 10 → C0 29 (wWw C0 ran) (D * 10 + v) = W (D : Int) ((v : Nat) : Int)) (hW : ∀ q ∈ l, okW b' (fun v => W (xv e q.1 % 10) ((v : Nat) : Int)))
    (hQ : ∀ (r : Int) C', (r = 0 ∨ r = 1) → oRes m cr st wt sl hm sc wc sk C0 (rmp (rho Mk) (nz (l.flatMap (xRun e W)))) r C' → Q r C' G k) : ∀ (F j : Nat) (C : mA), j ≤ l.length → l.length - j < F → inG m cr st wt sl hm sk C0 C → MX C m st wt sl hm (rmp (rho Mk) (nz ((l.take j).flatMap (xRun e W)))) → w_Walk_walkRun_77 wst F k G C o pr sa cr ran Mk j Q := by
  have hlen := hc.len
  intro F
  induction F with
  | zero => intro j C _ h; omega
  | succ F ih =>
    intro j C h1 h2 hin hX
    have hcC : CW C cr sc wc l := hcr hin hc q1 q2 q3
    unfold w_Walk_walkRun_77
    rw [hcC.2.2.1, if_pos (show g32 (j : Int) by unfold g32; omega), if_pos (show g32 ((l.length : Nat) : Int) by unfold g32; omega)]
    by_cases z : l.length ≤ j
    · rw [if_pos (show ((l.length : Nat) : Int) ≤ j by omega)]
      rw [List.take_of_length_le z] at hX
      obtain ⟨C9, x1, x2⟩ := op_end hin hX hc h3 q2
      refine ⟨(0, C9), ?_, hQ 1 C9 (Or.inr rfl) x2⟩
      rw [hin.1 7 o 0 (by omega), hw]
      exact x1
    · have hj : j < l.length := by omega
      obtain ⟨q, hq⟩ : ∃ q, q = l[j] := ⟨_, rfl⟩
      obtain ⟨a1, a2⟩ := CW.at hcC hj
      rw [← hq] at a1
      have hqm : q ∈ l := by rw [hq]; exact List.getElem_mem hj
      rw [if_neg (show ¬ ((l.length : Nat) : Int) ≤ j by omega), if_neg (show ¬ (300 : Int) ≤ j by omega), if_pos (show 0 ≤ (j : Int) ∧ (j : Int) < ((300 : Nat) : Int) by omega), Int.toNat_natCast]
      obtain ⟨hS, hsa'⟩ := hC.fr (C' := C) (fun f a i y => hin.1 f a i (by omega))
      obtain ⟨C1, d1, d2⟩ := c_xd (P := p) (A := M) hP hS hA (by omega) (by omega) a2 a2.tn
      have ecr : (C 0 cr 0).toNat = sc := hcC.1
      have b1 : ud (C 31 sc j) = q.1 := by rw [a1]
      rw [b1, hsa', hsa] at d1
      obtain ⟨D, hD⟩ : ∃ D : Nat, xv e q.1 % 10 = D := ⟨(xv e q.1 % 10).toNat, by omega⟩
      rw [hD] at d1
      have esk : (C 2 pr 7).toNat = sk := by rw [hin.1 2 pr 7 (by omega)]; exact hsk
      rw [esk] at d2
      have in1 := hin.trans (inG.stk (m := m) (cr := cr) (st := st) (wt := wt) (sl := sl) (hm := hm) d2)
      have f1 : ∀ f a i, f ≠ 37 → C1 f a i = C f a i := fun f a i y => d2 f a i (by omega)
      have hX1 := MX.cg (C' := C1) hX (fun i _ => f1 1 m i (by omega)) (fun i => ⟨f1 31 _ i (by omega), f1 31 _ i (by omega)⟩) (fun i => f1 32 _ i (by omega)) (fun i => f1 33 _ i (by omega))
      have hcC1 : CW C1 cr sc wc l := hcr in1 hc q1 q2 q3
      obtain ⟨a3, -⟩ := CW.at hcC1 hj
      rw [← hq] at a3
      have e32 : C1 32 (C1 0 cr 1).toNat j = q.2 := by rw [hcC1.2.1, a3]
      rw [ecr]
      refine ⟨((D : Int), C1), d1, ?_⟩
      dsimp only
      rw [e32, in1.1 2 ran 8 (by omega), e8]
      have ej : ((j : Int) + 1) = ((j + 1 : Nat) : Int) := by omega
      have hW' := hW q hqm
      refine w_r126 (X := (l.take j).flatMap (xRun e W)) (Z := (l.drop (j + 1)).flatMap (xRun e W)) (b' := b') (B := B) (e := e) (W := W) (q := q) hw hM hc h3 q1 q2 q3 hj hq.symm (by omega) hn hB hb' h50 (by rw [← hsa]; exact hC.1.2.1) e8 (fun v hv => by rw [e29 q hqm D hD v hv, hD]) hW' ⟨hl.nn q hqm, hl.le q hqm⟩ (hl.2.1 q hqm).2.2 (fun C9 y1 y2 => ?_) (fun C9 y1 => ?_) 400 0 C1 (by omega) (by omega) in1 (by rw [List.take_zero, List.append_nil]; exact hX1)
      · rw [ej]
        refine ih (j + 1) C9 hj (by omega) y1 ?_
        rw [take_s hj, List.flatMap_append, ← hq]
        have : List.flatMap (xRun e W) [q] = xRun e W q := by simp
        rw [this]
        exact y2
      · refine hQ 0 C9 (Or.inl rfl) ?_
        have et : l.flatMap (xRun e W) = (l.take j).flatMap (xRun e W) ++ (xRun e W q ++ (l.drop (j + 1)).flatMap (xRun e W)) := by
          conv => lhs; rw [← List.take_append_drop j l, drop_s hj, List.flatMap_append, List.flatMap_cons, ← hq]
        rw [et]
        exact y1
theorem wCa.told {p d : Nat} (h : wCa T cnt pa C) (hp : p < cnt) (hd : d < 10) (hne : C 28 (wSd C (pa p)) d ≠ 0) (hs : (sRn T 40 p d).isSome = true) : ∀ v : Nat, v < 10 → C 29 (wWw C (pa p)) (d * 10 + v) = xW T p d ((v : Nat) : Int) := fun v hv => by
  unfold xW
  rcases h p hp d hd with y | ⟨-, R, y2, y3⟩ | ⟨-, y2⟩
  · exact absurd y hne
  · rw [y2]; exact y3 v hv
  · rw [y2] at hs; cases hs
set_option maxHeartbeats 1000000 in
theorem w_runCore (hT : TB T b cnt) (hM : mTab T cnt M) {n : Nat} (hBS : wBS o m sp sl hm T b sE cnt pa wst n) {p i : Nat} {kept d B : Int} {l : List xE} {Q : wQ} (hp : p < cnt) (hi : i < (T p).1) (k5 : sK ((T p).2 i) = 5) (hd : dep p (sV ((T p).2 i)) < n + 1) (hk : g32 kept) (hP : wPr o m sp sl hm T b sE cnt pa cr L k G C B l) (hL : L + dep p (sV ((T p).2 i)) < 40) (hd0 : 0 ≤ d) (hd4 : d + dep p (sV ((T p).2 i)) ≤ 40) (h50 : B + gv (Fb (T p).2 b) 16 i ≤ 50)
    (hQ : ∀ (r : Int) (k' : Nat) (G' : tG) (C' : mA), (r = 0 ∨ r = 1) → wPo o m sp sl hm T b sE cnt pa cr L k G C (B + gv (Fb (T p).2 b) 16 i) kept (tot l) (sSt T 40 p i l) r k' G' C' → Q r C' G' k') : 0 ≤ C 6 (sAd C (pa p) i) 13 ∧ w_Walk_canRun wst k G C o (pa p) (sAd C (pa p) i) cr ((C 6 (sAd C (pa p) i) 13).toNat) d (fun r37 A38 G39 k40 => (if g32 r37 then (if r37 = 0 then (Q 0 A38 G39 k40) else (∃ q47, f_CS_maskOf A38 kept = some q47 ∧ (∃ q50, f_Mixer_clear q47.2 ((q47.2 7 o 0).toNat) = some q50 ∧ (w_Walk_walkRun_77 wst 400 k40 G39 q50.2 o (pa p) (sAd C (pa p) i) cr ((C 6 (sAd C (pa p) i) 13).toNat) q47.1 0 Q)))) else False)) := by
  have hc6 := hT.1
  obtain ⟨ho, hX, -⟩ := hT.2 p hp
  have h16 := ho.1
  obtain ⟨⟨hk0, hv, hi1, h3, h4, h5, -⟩, h9⟩ := ho.2.2 i hi
  obtain ⟨u1, u2⟩ := h5 k5
  have hn9 := (hX i hi).1 (Or.inr (Or.inr k5))
  have ge : gv (Fb (T p).2 b) 16 i = b (sU ((T p).2 i)) := by rw [gv_eq (F := Fb (T p).2 b) (Fb_c ho) h16 hi, Fb_5 k5]
  obtain ⟨Q', hQe⟩ : ∃ q : Nat, sU ((T p).2 i) = q := ⟨(sU ((T p).2 i)).toNat, by omega⟩
  rw [ge, hQe] at h50 hQ
  have hQc : Q' < cnt := by omega
  obtain ⟨hoQ, hXQ, hbQ, hbQ0, hbQ1⟩ := hT.2 Q' hQc
  have sp5' := sp5 hT hp hi (l := l) k5 hQe
  obtain ⟨hE, gcr, hfree, h7, hn, hc, hB, hl⟩ := id hP
  have hS := ((hE.2.2.1 p hp).2 i hi)
  have e13 : C 6 (sAd C (pa p) i) 13 = ((pa Q' : Nat) : Int) := by
    rw [hS.2.2.2]
    unfold vRan
    rw [if_pos k5, hQe, Int.toNat_natCast]
  rw [e13]
  refine ⟨Int.natCast_nonneg _, ?_⟩
  rw [Int.toNat_natCast]
  unfold w_Walk_canRun
  have dQ : dep Q' 0 + 1 < dep p (sV ((T p).2 i)) := by unfold dep; omega
  refine w_canRun hT hM hBS hp hi k5 hQe (by omega) gcr hfree hc hn (by omega) hd0 (by omega) (fun r k9 G9 C9 hE9 hF9 e79 hr => ?_) 400 0 k G C (Nat.zero_le _) (by have := hc.len; omega) hE WFr.refl h7 (fun q hq => by rw [List.take_zero] at hq; cases hq)
  have hF9' : WFr o m sp (fun a => a = cr ∨ wFree C sp L a) L k G C k9 G9 C9 := hF9.sub (fun _ _ q => Or.inr q) (Nat.le_refl L)
  rcases hr with ⟨rfl, hr⟩ | ⟨rfl, hr⟩
  · rw [if_pos (show g32 (1 : Int) by decide), if_neg (show ¬ (1 : Int) = 0 by decide)]
    have gcr9 := hF9.1 _ _ gcr
    have hc9 : CWs C9 cr l := hF9.cw gcr hfree hc
    obtain ⟨Mk, m1, m2, m3⟩ := c_keep (A := C9) hk
    obtain ⟨C10, v1, -, -, -, v5, v6⟩ := w_clear (L := 0) (k := 0) hE9
    obtain ⟨-, y1, y2, y3, y4⟩ := hE9.1.2.1 cr gcr9
    have hS9 := (hE9.2.2.1 p hp).2 i hi
    have hsa : sAd C9 (pa p) i = sAd C (pa p) i := by unfold sAd; rw [hF9.2.1 2 _ 0 (by omega), hF9.2.1 25 _ _ (by omega)]
    refine ⟨(Mk, C9), m1, (0, C10), by show f_Mixer_clear C9 (C9 7 o 0).toNat = _; rw [hE9.2.1.1]; exact v1, ?_⟩
    have hWk : ∀ q ∈ l, okW (b Q') (fun v => xW T Q' (xv ((T p).2 i) q.1 % 10) ((v : Nat) : Int)) := fun q _ => xW_ok hT hQc (by omega)
    obtain ⟨z1, z2⟩ := gd_run (e := (T p).2 i) (W := xW T Q') hl hB hbQ0 h50 hWk
    refine w_r77 (p := p) (i := i) (M := M) (sk := (C9 2 (pa p) 7).toNat) (W := xW T Q') (b' := b Q') (B := B) (l := l) (by omega) hS9.1 ((hM p hp).2 i hi) k5 hsa rfl hE9.2.1.1 m2 hc9 y4.2 y1 y2 y3 (by omega) hB hbQ0 h50 hl ((hE9.2.2.1 Q' hQc).1.2) (fun q hq D hD v hv => ?_) hWk (fun r C' hr' hres => ?_) 400 0 C10 (Nat.zero_le _) (by have := hc.len; omega) (inG.mx v5) (by rw [List.take_zero]; exact v6)
    · obtain ⟨w1, w2⟩ := hr q hq D hD
      exact hE9.2.2.2.2.told hQc (by omega) w1 w2 v hv
    · obtain ⟨j1, j2, j3⟩ := hE9.op (L := L) (k := k9) gcr9 hres
      have hall : l.all (fun q => (sRn T 40 Q' (xv ((T p).2 i) q.1 % 10)).isSome) = true := List.all_eq_true.mpr (fun q hq => by
        have := (hr q hq (xv ((T p).2 i) q.1 % 10).toNat (by omega)).2
        rw [Int.toNat_of_nonneg (by omega)] at this
        exact this)
      refine hQ r k9 G9 C' hr' ⟨j1, hF9'.trans j2 (fun _ _ q => Or.inl q), by rw [j3]; exact e79, ?_⟩
      rw [sp5', if_pos hall]
      have := wRs_of (kept := kept) (tt := tot l) (B' := B + b Q') (Y := nz (l.flatMap (xRun ((T p).2 i) (xW T Q')))) (by rw [tot_nz]; exact z2) (fun q hq => by
        obtain ⟨x1, x2⟩ := List.mem_filter.mp hq
        obtain ⟨w1, w2, w3⟩ := z1 q x1
        have : q.2 ≠ 0 := by simpa using x2
        exact ⟨w1, by omega, w3⟩) (by rw [tot_nz]; exact Int.le_trans z2 hl.2.2) hres m3
      rw [cap_nz] at this
      exact this
  · rw [if_pos (show g32 (0 : Int) by decide), if_pos rfl]
    refine hQ 0 k9 G9 C9 (Or.inl rfl) ⟨hE9, hF9', e79, Or.inr ⟨rfl, fun _ => ?_⟩⟩
    obtain ⟨q, hq, hq2⟩ := hr
    rw [sp5', if_neg]
    intro hall
    have := List.all_eq_true.mp hall q hq
    rw [hq2] at this
    cases this
set_option maxHeartbeats 1000000 in
theorem w_run (hT : TB T b cnt) (hM : mTab T cnt M) (hs : ∀ u : Nat, u < cnt → sE u = 0 ∨ sE u = 1) {n : Nat} (hBS : wBS o m sp sl hm T b sE cnt pa wst n) {p i : Nat} {kept d B : Int} {l : List xE} {Q : wQ} (hp : p < cnt) (hi : i < (T p).1) (k5 : sK ((T p).2 i) = 5) (hd : dep p (sV ((T p).2 i)) < n + 1) (hk : g32 kept) (hP : wPr o m sp sl hm T b sE cnt pa cr L k G C B l) (hL : L + dep p (sV ((T p).2 i)) < 40) (hd0 : 0 ≤ d) (hd4 : d + dep p (sV ((T p).2 i)) ≤ 40) (h50 : B + gv (Fb (T p).2 b) 16 i ≤ 50)
    (hQ : ∀ (r : Int) (k' : Nat) (G' : tG) (C' : mA), (r = 0 ∨ r = 1) → wPo o m sp sl hm T b sE cnt pa cr L k G C (B + gv (Fb (T p).2 b) 16 i) kept (tot l) (sSt T 40 p i l) r k' G' C' → Q r C' G' k') : w_Walk_walkRun wst k G C o (pa p) (sAd C (pa p) i) cr kept d Q := by
  obtain ⟨r1, r2⟩ := w_runCore hT hM hBS hp hi k5 hd hk hP hL hd0 hd4 h50 hQ
  have hc6 := hT.1
  obtain ⟨ho, hX, -⟩ := hT.2 p hp
  obtain ⟨⟨hk0, hv, hi1, h3, h4, h5, -⟩, h9⟩ := ho.2.2 i hi
  obtain ⟨u1, u2⟩ := h5 k5
  have hvn := hT.gv_nn hp 16 i hi
  unfold w_Walk_walkRun
  rw [if_pos hk]
  by_cases q : kept = -1
  · rw [if_pos q, if_pos r1]
    exact r2
  · rw [if_neg q]
    obtain ⟨hE, gcr, hfree, h7, hn, hc, hB, hl⟩ := id hP
    have hS := ((hE.2.2.1 p hp).2 i hi)
    have e12 : C 6 (sAd C (pa p) i) 12 = sE (sU ((T p).2 i)) := by
      rw [hS.2.2.1]
      unfold vSee
      rw [if_neg (by omega), if_pos k5]
    have h01 := hs (sU ((T p).2 i)).toNat (by omega)
    rw [Int.toNat_of_nonneg u1] at h01
    by_cases q2 : iAnd (iShr kept (C 6 (sAd C (pa p) i) 1)) 1 = 0
    · rw [if_pos q2, if_pos (show g32 (C 6 (sAd C (pa p) i) 12) by rw [e12]; unfold g32; omega)]
      by_cases q3 : C 6 (sAd C (pa p) i) 12 = 0
      · rw [if_pos q3]
        obtain ⟨C', a1, a2, a3, a4, a5⟩ := w_forget (L := L) (k := k) hE gcr hc hl hk
        refine ⟨(1, C'), a1, ?_⟩
        show (if ((1 : Int) = 0 ∨ (1 : Int) = 1) then Q 1 C' G k else False)
        rw [if_pos (Or.inr rfl)]
        refine hQ 1 k G C' (Or.inr rfl) ⟨a2, a3.sub (fun _ _ z => Or.inl z) (Nat.le_refl L), a4.trans h7, ?_⟩
        rcases a5 with ⟨x1, l', x2, x3, x4, x5⟩ | ⟨x1, x2⟩
        · exact Or.inl ⟨x1, l', x2, x3.mono (by omega), x4, fun z => absurd z q⟩
        · exact absurd x1 (by decide)
      · rw [if_neg q3, if_pos r1]
        exact r2
    · rw [if_neg q2, if_pos r1]
      exact r2
end WRN
