/-! FORMULAS of the class: one (own work) -/
section FO
variable {o s pr ca : Nat} {T : Nat → Int} {m : Nat} {op : Int}
theorem c_emit0 {C : mA} (h : cI o pr ca T m C) (x : Int) : ∃ C', f_Prog_emit C pr x = some (0, C') ∧ fE o s pr ca C C' ∧ cI o pr ca T m C' ∧ (∀ j, C' 3 o j = C 3 o j) ∧ C' 6 s 6 = C 6 s 6 ∧ (C 2 pr 3 < 120 → C' 2 pr 3 = C 2 pr 3 + 1 ∧ C' 36 ca (C 2 pr 3).toNat = x) := by
  obtain ⟨h1, h2, h3, h4, h5⟩ := h
  unfold f_Prog_emit
  rw [if_pos (by unfold g32; omega)]
  by_cases c : 120 ≤ C 2 pr 3
  · rw [if_pos c]
    exact ⟨C, rfl, fE.refl, ⟨h1, h2, h3, h4, h5⟩, fun _ => rfl, rfl, fun h => absurd h (by omega)⟩
  · rw [if_neg c, if_pos (by omega), h3, Int.toNat_natCast]
    have f1 : fE o s pr ca C (mu (mu C 36 ca (C 2 pr 3).toNat x) 2 pr 3 (C 2 pr 3 + 1)) := by
      refine ⟨by rw [mu_at]; omega, fun f k j q => ?_⟩
      rw [mu_ne _ _ (fun r => q (Or.inr (Or.inr (Or.inl r)))), mu_ne _ _ (fun r => q (Or.inr (Or.inr (Or.inr ⟨r.1, r.2.1, by rw [r.2.2]; omega⟩))))]
    refine ⟨_, rfl, f1, cI.fE ⟨h1, h2, h3, h4, h5⟩ f1 (by rw [mu_at]; omega), fun j => ?_, ?_, fun _ => ⟨mu_at _ _ _ _ _, ?_⟩⟩
    · rw [mu_ne _ _ (fun r => absurd r.1 (by decide)), mu_ne _ _ (fun r => absurd r.1 (by decide))]
    · rw [mu_ne _ _ (fun r => absurd r.1 (by decide)), mu_ne _ _ (fun r => absurd r.1 (by decide))]
    · rw [mu_ne _ _ (fun r => absurd r.1 (by decide)), mu_at]
theorem c_adv2 {C : mA} {p : Nat} (h : cI o pr ca T m C) (hg : gC C o (kTok T m p)) (hp : p ≤ m) (hc : C 2 pr 3 ≤ tkE (kTok T m p)) : ∃ C', f_Read_advance C o = some (0, C') ∧ fC C C' o [4, 6, 7, 8] ∧ cE o pr ca T m C' (tkE (kTok T m p)) := by
  obtain ⟨g1, g2, g3, -⟩ := kTok_ok h.tx.1 h.tx.2 hp
  obtain ⟨C', x1, x2, x3⟩ := c_advance h.1 hg.1 g3
  have e3 : C' 2 pr 3 = C 2 pr 3 := x2 2 pr 3 (fun r => absurd r.1 (by decide))
  exact ⟨C', x1, x2, h.fE (s := 0) (fE.ofC x2 (by decide)) (by rw [e3]; exact h.2.2.2.2), x3, g3, by rw [e3]; exact hc⟩
theorem eC.one {C C' : mA} {x : Int} (h1 : C' 2 pr 3 = C 2 pr 3 + 1) (h2 : C' 36 ca (C 2 pr 3).toNat = x) (h3 : C' 6 s 6 = kSee (C 6 s 6) [x]) : eC s pr ca C C' [x] := ⟨h1, fun i hi => by
  obtain rfl : i = 0 := by
    have : i < 1 := hi
    omega
  exact h2, h3⟩
theorem fE.o5 {C : mA} {z : Int} : fE o s pr ca C (mu C 3 o 5 z) := fE.ofC (l := [5]) (fC.mu (by decide)) (by decide)
/-- a - or a ( -/
def gOpen (one : mA → Nat → Nat → Option (Int × mA)) (C : mA) (o a0 : Nat) : Option (Int × mA) := (if g32 (C 3 o 5) then (if (C 3 o 5) < 4 then (Option.bind (f_Read_isSign C o 45) (fun q10 => (Option.bind (f_Read_advance (mu q10.2 3 o 5 ((q10.2 3 o 5) + 1)) o) (fun q12 => (if g32 q10.1 then (if q10.1 = 0 then (Option.bind (f_Read_readComparison one q12.2 o a0) (fun q16 => (if g32 q16.1 then (if q16.1 = 0 then (some (0, (mu q16.2 3 o 5 ((q16.2 3 o 5) - 1)))) else (Option.bind (f_Read_isSign q16.2 o 41) (fun q22 => (if g32 q22.1 then (if q22.1 = 0 then (some (0, (mu q22.2 3 o 5 ((q22.2 3 o 5) - 1)))) else (Option.bind (f_Read_advance (mu q22.2 3 o 5 ((q22.2 3 o 5) - 1)) o) (fun q31 => (some (1, q31.2))))) else none)))) else none))) else (Option.bind (one q12.2 o a0) (fun q33 => (if g32 q33.1 then (if q33.1 = 0 then (if (q33.1 = 0 ∨ q33.1 = 1) then (some (q33.1, (mu q33.2 3 o 5 ((q33.2 3 o 5) - 1)))) else none) else (if 0 ≤ (q33.2 3 o 2) then (Option.bind (f_Prog_emit (mu q33.2 3 o 5 ((q33.2 3 o 5) - 1)) ((q33.2 3 o 2).toNat) 150) (fun q42 => (if (q33.1 = 0 ∨ q33.1 = 1) then (some (q33.1, q42.2)) else none))) else none)) else none)))) else none))))) else (some (0, C))) else none)
/-- what is opened -/
def kOpen (T : Nat → Int) (m : Nat) (f : Nat → kR (List Int)) (p : Nat) : kR (List Int) := if kSg (kTok T m p) 45 then
    (match f (tkE (kTok T m p)) with
    | .inl b => .inl b
    | .inr x => .inr (x.1, x.2 ++ [150]))
  else
    (match kExp T m f (tkE (kTok T m p)) with
    | .inl b => .inl b
    | .inr x => if kSg (kTok T m x.1) 41 then .inr (tkE (kTok T m x.1), x.2) else .inl (tkB (kTok T m x.1)))
theorem c_open {one : mA → Nat → Nat → Option (Int × mA)} {f : Nat → kR (List Int)} (hin : cFn o s pr ca T m (op + 1) one f) (hf : kPr m f) (hop : 0 ≤ op ∧ op < 4) {C : mA} {p : Nat} (h : cE o pr ca T m C p) (ho : C 3 o 5 = op) (h4 : tkS (kTok T m p) = 4) : ∃ z C', gOpen one C o s = some (z, C') ∧ cRes o s pr ca T m op C z C' (kOpen T m f p) := by
  obtain ⟨g1, g2, g3, g4, g5, g6, -⟩ := h.good
  have g7 : tkB (kTok T m p) < tkE (kTok T m p) := g4.resolve_left (by rw [h4]; decide)
  have h120 := h.1.tx.1
  have hT := h.1.tx.2
  have hcs := h.2.2.2
  have h0 := h.1.2.2.2.1
  unfold gOpen
  rw [ho, if_pos (by unfold g32; omega), if_pos (by omega), c_isSign h (by decide), obind]
  show ∃ z C', Option.bind (f_Read_advance (mu C 3 o 5 (C 3 o 5 + 1)) o) _ = _ ∧ _
  rw [ho]
  have fa : fE o s pr ca C (mu C 3 o 5 (op + 1)) := fE.o5
  have ia := h.1.fE fa (show C 2 pr 3 ≤ 120 by omega)
  obtain ⟨C2, x1, x2, x3⟩ := c_adv2 (p := p) ia ⟨h.2.1.1, h.2.1.2.1, h.2.1.2.2.1, h.2.1.2.2.2⟩ h.2.2.1 (by show C 2 pr 3 ≤ _; omega)
  have fb : fE o s pr ca C C2 := fa.trans (fE.ofC x2 (by decide))
  have ho2 : C2 3 o 5 = op + 1 := (x2 3 o 5 (fun r => absurd r.2.2 (by decide))).trans (mu_at _ _ _ _ _)
  have c2 : C2 2 pr 3 = C 2 pr 3 := (x2 2 pr 3 (fun r => absurd r.1 (by decide))).trans rfl
  have nb : eC s pr ca C C2 [] := eC.nil c2 ((x2 6 s 6 (fun r => absurd r.1 (by decide))).trans rfl)
  rw [x1, obind, if_pos (by show g32 (if kSg (kTok T m p) 45 then 1 else 0); exact g32_if _)]
  unfold kOpen
  by_cases k : kSg (kTok T m p) 45
  · rw [if_pos k, if_pos k, if_neg (by show ¬ (1 : Int) = 0; decide)]
    show ∃ z C', Option.bind (one C2 o s) _ = _ ∧ _
    obtain ⟨z, C3, y1, y2, y3, y4⟩ := hin C2 _ x3 ho2
    rw [y1, obind]
    show ∃ z' C', (if g32 z then if z = 0 then if z = 0 ∨ z = 1 then some (z, mu C3 3 o 5 (C3 3 o 5 - 1)) else none else if 0 ≤ C3 3 o 2 then Option.bind (f_Prog_emit (mu C3 3 o 5 (C3 3 o 5 - 1)) (C3 3 o 2).toNat 150) _ else none else none) = _ ∧ _
    have i3 : cI o pr ca T m (mu C3 3 o 5 (C3 3 o 5 - 1)) := y3.fE (s := s) fE.o5 y3.2.2.2.2
    cases hq : f (tkE (kTok T m p)) with
    | inl b =>
      rw [hq] at y4
      obtain ⟨w1, w2⟩ := y4
      subst w1
      exact ⟨0, _, rfl, (fb.trans y2).trans fE.o5, i3, rfl, w2⟩
    | inr x =>
      rw [hq] at y4
      obtain ⟨w1, w2, w3, w4⟩ := y4
      subst w1
      obtain ⟨b1, b2, b3⟩ := hf _ g3 x hq
      rw [w3]
      obtain ⟨C4, v1, v2, v3, v4, v5⟩ := c_emit (s := s) (y3.fE (s := s) (C' := mu C3 3 o 5 (op + 1 - 1)) fE.o5 y3.2.2.2.2) 150 (by decide)
      have cc : C3 2 pr 3 = C2 2 pr 3 + x.2.length := w4.1
      have v6 := v5 (by show C3 2 pr 3 < 120; omega)
      have e5 : op + 1 - 1 = op := by omega
      rw [if_pos (by decide), if_neg (by decide), y3.2.1, if_pos (by omega), Int.toNat_natCast, v1, obind]
      refine ⟨1, C4, rfl, ((fb.trans y2).trans fE.o5).trans v2, v3, rfl, ⟨v3, ?_, b2, ?_⟩, (v4 5).trans ((mu_at _ _ _ _ _).trans e5), ?_⟩
      · obtain ⟨d1, d2, d3, d4⟩ := w2.2.1
        exact ⟨(v4 4).trans d1, (v4 6).trans d2, (v4 7).trans d3, fun q1 q2 => (v4 8).trans (d4 q1 q2)⟩
      · rw [v6.1]
        show C3 2 pr 3 + ((1 : Nat) : Int) ≤ (x.1 : Int)
        omega
      · have k1 : eC s pr ca C C3 x.2 := eC.app (c := []) h0 nb y2 w4
        have k2 : eC s pr ca C (mu C3 3 o 5 (op + 1 - 1)) x.2 := by
          have := eC.app (o := o) (C2 := mu C3 3 o 5 (op + 1 - 1)) (d := []) h0 k1 (fE.o5 (z := op + 1 - 1)) (eC.nil rfl rfl)
          rw [List.append_nil] at this
          exact this
        exact eC.app h0 k2 v2 v6
  · rw [if_neg k, if_neg k, if_pos (by show (0 : Int) = 0; rfl)]
    show ∃ z C', Option.bind (f_Read_readComparison one C2 o s) _ = _ ∧ _
    obtain ⟨z, C3, y1, y2, y3, y4⟩ := c_exp hin hf h120 hT C2 _ x3 ho2
    rw [y1, obind]
    show ∃ z' C', (if g32 z then if z = 0 then some (0, mu C3 3 o 5 (C3 3 o 5 - 1)) else Option.bind (f_Read_isSign C3 o 41) _ else none) = _ ∧ _
    have i3 : cI o pr ca T m (mu C3 3 o 5 (C3 3 o 5 - 1)) := y3.fE (s := s) fE.o5 y3.2.2.2.2
    cases hq : kExp T m f (tkE (kTok T m p)) with
    | inl b =>
      rw [hq] at y4
      obtain ⟨w1, w2⟩ := y4
      subst w1
      exact ⟨0, _, rfl, (fb.trans y2).trans fE.o5, i3, rfl, w2⟩
    | inr x =>
      rw [hq] at y4
      obtain ⟨w1, w2, w3, w4⟩ := y4
      subst w1
      obtain ⟨b1, b2, b3⟩ := kExp_pr h120 hT hf _ g3 x hq
      have k1 : eC s pr ca C C3 x.2 := eC.app (c := []) h0 nb y2 w4
      rw [if_pos (by decide), if_neg (by decide), c_isSign w2 (by decide), obind, if_pos (by show g32 (if kSg (kTok T m x.1) 41 then 1 else 0); exact g32_if _)]
      dsimp only
      by_cases k9 : kSg (kTok T m x.1) 41
      · rw [if_neg (fun h => (if0 _).mp h k9), if_pos k9, w3]
        obtain ⟨d1, d2, d3, d4, -⟩ := w2.good
        obtain ⟨C5, v1, v2, v3⟩ := c_adv2 (p := x.1) (y3.fE (s := s) (C' := mu C3 3 o 5 (op + 1 - 1)) fE.o5 y3.2.2.2.2) ⟨w2.2.1.1, w2.2.1.2.1, w2.2.1.2.2.1, w2.2.1.2.2.2⟩ b2 (by show C3 2 pr 3 ≤ _; have := w2.2.2.2; omega)
        rw [v1, obind]
        have f5 : fE o s pr ca C3 C5 := (fE.o5 (z := op + 1 - 1)).trans (fE.ofC v2 (by decide))
        refine ⟨1, C5, rfl, (fb.trans y2).trans f5, v3.1, rfl, v3, ((v2 3 o 5 (fun r => absurd r.2.2 (by decide))).trans (mu_at _ _ _ _ _)).trans (by omega), ?_⟩
        have := eC.app (d := []) h0 k1 f5 (eC.nil ((v2 2 pr 3 (fun r => absurd r.1 (by decide))).trans rfl) ((v2 6 s 6 (fun r => absurd r.1 (by decide))).trans rfl))
        rw [List.append_nil] at this
        exact this
      · rw [if_pos ((if0 _).mpr k9), if_neg k9]
        exact ⟨0, _, rfl, (fb.trans y2).trans fE.o5, i3, rfl, w2.2.1.2.1⟩
theorem kOne_eq (T : Nat → Int) (m d p : Nat) : kOne T m (d + 1) p = if tkS (kTok T m p) = 3 then .inr (tkE (kTok T m p), [tkV (kTok T m p)]) else if tkS (kTok T m p) = 1 then .inr (tkE (kTok T m p), [100 + tkV (kTok T m p)]) else if kSg (kTok T m p) 45 ∨ kSg (kTok T m p) 40 then kOpen T m (kOne T m d) p else .inl (tkB (kTok T m p)) := rfl
/-- one, where this may still be opened -/
theorem c_one {one : mA → Nat → Nat → Option (Int × mA)} {r : Nat → kR (List Int)} (hop : 0 ≤ op ∧ op ≤ 4)
    (hk : ∀ (C : mA) (p : Nat), cE o pr ca T m C p → C 3 o 5 = op → tkS (kTok T m p) = 4 → ∃ z C', gOpen one C o s = some (z, C') ∧ cRes o s pr ca T m op C z C' (r p)) : cFn o s pr ca T m op (f_Read_readOne one) (fun p => if tkS (kTok T m p) = 3 then .inr (tkE (kTok T m p), [tkV (kTok T m p)]) else if tkS (kTok T m p) = 1 then .inr (tkE (kTok T m p), [100 + tkV (kTok T m p)]) else if kSg (kTok T m p) 45 ∨ kSg (kTok T m p) 40 then r p else .inl (tkB (kTok T m p))) := by
  intro C p h ho
  obtain ⟨g1, g2, g3, g4, g5, g6, g8, g9, g10⟩ := h.good
  obtain ⟨e4, e6, e7, e8⟩ := h.2.1
  have h120 := h.1.tx.1
  have hcs := h.2.2.2
  have h0 := h.1.2.2.2.1
  unfold f_Read_readOne
  rw [e7, if_pos (by unfold g32; omega)]
  dsimp only
  by_cases c3 : tkS (kTok T m p) = 3
  · have g7 : tkB (kTok T m p) < tkE (kTok T m p) := g4.resolve_left (by rw [c3]; decide)
    have g11 := g10 c3
    rw [if_pos c3, if_pos c3, h.1.2.1, if_pos (by omega), Int.toNat_natCast, e8 (by omega) (by omega)]
    obtain ⟨C2, v1, v2, v3, v4, v5⟩ := c_emit (s := s) h.1 (tkV (kTok T m p)) (by omega)
    have v6 := v5 (by omega)
    obtain ⟨C3, w1, w2, w3⟩ := c_adv2 (p := p) v3 ⟨(v4 4).trans e4, (v4 6).trans e6, (v4 7).trans e7, fun q1 q2 => (v4 8).trans (e8 q1 q2)⟩ h.2.2.1 (by rw [v6.1]; show C 2 pr 3 + ((1 : Nat) : Int) ≤ _; omega)
    rw [v1, obind]
    show ∃ z C', Option.bind (f_Read_advance C2 o) _ = _ ∧ _
    rw [w1, obind]
    have f3 : fE o s pr ca C2 C3 := fE.ofC w2 (by decide)
    refine ⟨1, C3, rfl, v2.trans f3, w3.1, rfl, w3, ((w2 3 o 5 (fun r => absurd r.2.2 (by decide))).trans (v4 5)).trans ho, ?_⟩
    exact eC.app (c := [tkV (kTok T m p)]) (d := []) h0 v6 f3 (eC.nil (w2 2 pr 3 (fun r => absurd r.1 (by decide))) (w2 6 s 6 (fun r => absurd r.1 (by decide))))
  rw [if_neg c3, if_neg c3]
  by_cases c1 : tkS (kTok T m p) = 1
  · have g7 : tkB (kTok T m p) < tkE (kTok T m p) := g4.resolve_left (by rw [c1]; decide)
    have g11 := g8 c1
    rw [if_pos c1, if_pos c1, h.1.2.1, if_pos (by omega), Int.toNat_natCast, e8 (by omega) (by omega)]
    have fs : fE o s pr ca C (mu C 6 s 6 (iOr (C 6 s 6) (iShl 1 (tkV (kTok T m p))))) := by
      refine ⟨Int.le_refl _, fun f k j q => ?_⟩
      rw [mu_ne _ _ (fun r => q (Or.inr (Or.inl r)))]
    have is := h.1.fE fs h.1.2.2.2.2
    obtain ⟨C2, v1, v2, v3, v4, v7, v5⟩ := c_emit0 (s := s) is (100 + tkV (kTok T m p))
    obtain ⟨v6, v8⟩ := v5 (by show C 2 pr 3 < 120; omega)
    obtain ⟨C3, w1, w2, w3⟩ := c_adv2 (p := p) v3 ⟨(v4 4).trans e4, (v4 6).trans e6, (v4 7).trans e7, fun q1 q2 => (v4 8).trans (e8 q1 q2)⟩ h.2.2.1 (by rw [v6]; show C 2 pr 3 + 1 ≤ _; omega)
    rw [v1, obind]
    show ∃ z C', Option.bind (f_Read_advance C2 o) _ = _ ∧ _
    rw [w1, obind]
    have f3 : fE o s pr ca C2 C3 := fE.ofC w2 (by decide)
    refine ⟨1, C3, rfl, (fs.trans v2).trans f3, w3.1, rfl, w3, ((w2 3 o 5 (fun r => absurd r.2.2 (by decide))).trans (v4 5)).trans ho, ?_⟩
    have k1 : eC s pr ca C C2 [100 + tkV (kTok T m p)] := eC.one v6 v8 (by
      rw [v7, mu_at]
      show _ = if 100 ≤ 100 + tkV (kTok T m p) ∧ 100 + tkV (kTok T m p) ≤ 105 then iOr (C 6 s 6) (iShl 1 (100 + tkV (kTok T m p) - 100)) else _
      rw [if_pos (by omega), show 100 + tkV (kTok T m p) - 100 = tkV (kTok T m p) by omega])
    exact eC.app (c := [100 + tkV (kTok T m p)]) (d := []) h0 k1 f3 (eC.nil (w2 2 pr 3 (fun r => absurd r.1 (by decide))) (w2 6 s 6 (fun r => absurd r.1 (by decide))))
  rw [if_neg c1, if_neg c1, c_isSign h (by decide), obind, if_pos (by show g32 (if kSg (kTok T m p) 45 then 1 else 0); exact g32_if _)]
  by_cases k1 : kSg (kTok T m p) 45
  · rw [if_neg (fun h => (if0 _).mp h k1), if_pos (Or.inl k1)]
    exact hk C p h ho k1.1
  · rw [if_pos ((if0 _).mpr k1)]
    show ∃ z C', Option.bind (f_Read_isSign C o 40) _ = _ ∧ _
    rw [c_isSign h (by decide), obind, if_pos (by show g32 (if kSg (kTok T m p) 40 then 1 else 0); exact g32_if _)]
    by_cases k2 : kSg (kTok T m p) 40
    · rw [if_neg (fun h => (if0 _).mp h k2), if_pos (Or.inr k2)]
      exact hk C p h ho k2.1
    · rw [if_pos ((if0 _).mpr k2), if_neg (show ¬ (kSg (kTok T m p) 45 ∨ kSg (kTok T m p) 40) from fun q => q.elim k1 k2)]
      exact ⟨0, C, rfl, fE.refl, h.1, rfl, e6⟩
theorem c_oneN : ∀ d : Nat, d ≤ 4 → ∀ n : Nat, d < n → m ≤ 120 → (∀ j, j < 120 → 0 ≤ T j ∧ T j ≤ 255) → cFn o s pr ca T m (4 - d) (f_Read_oneN n) (kOne T m d) := by
  intro d
  induction d with
  | zero =>
    intro hd n hn h120 hT
    obtain ⟨n, rfl⟩ : ∃ k, n = k + 1 := ⟨n - 1, by omega⟩
    have k := c_one (o := o) (s := s) (pr := pr) (ca := ca) (T := T) (m := m) (op := 4 - (0 : Nat)) (one := f_Read_oneN n) (r := fun p => .inl (tkB (kTok T m p))) (by decide) (fun C p h ho h4 => ⟨0, C, by
      unfold gOpen
      rw [ho, if_pos (by decide), if_neg (by decide)], fE.refl, h.1, rfl, h.2.1.2.1⟩)
    intro C p h ho
    obtain ⟨z, C', x1, x2⟩ := k C p h ho
    refine ⟨z, C', x1, ?_⟩
    have e : kOne T m 0 p = if tkS (kTok T m p) = 3 then .inr (tkE (kTok T m p), [tkV (kTok T m p)]) else if tkS (kTok T m p) = 1 then .inr (tkE (kTok T m p), [100 + tkV (kTok T m p)]) else if kSg (kTok T m p) 45 ∨ kSg (kTok T m p) 40 then .inl (tkB (kTok T m p)) else .inl (tkB (kTok T m p)) := rfl
    rw [e]
    exact x2
  | succ d ih =>
    intro hd n hn h120 hT
    obtain ⟨n, rfl⟩ : ∃ k, n = k + 1 := ⟨n - 1, by omega⟩
    have e1 : (4 : Int) - ((d + 1 : Nat) : Int) + 1 = 4 - (d : Int) := by omega
    have k := c_one (o := o) (s := s) (pr := pr) (ca := ca) (T := T) (m := m) (op := 4 - ((d + 1 : Nat) : Int)) (one := f_Read_oneN n) (r := kOpen T m (kOne T m d)) (by omega) (fun C p h ho h4 => c_open (by rw [e1]; exact ih (by omega) n (by omega) h120 hT) (kOne_pr h120 hT d) (by omega) h ho h4)
    intro C p h ho
    obtain ⟨z, C', x1, x2⟩ := k C p h ho
    exact ⟨z, C', x1, by rw [kOne_eq]; exact x2⟩
end FO
