/-! the class's walk: a run as a whole; whether all can be run (own work) -/
theorem vs9_0 : vs9 0 := ⟨by decide, fun j _ => ⟨rfl, by unfold nb9; split <;> decide⟩⟩
theorem ud_0 : ud 0 = 0 := by
  unfold ud
  have : nb9 0 = fun _ => 0 := by
    funext j
    unfold nb9
    split <;> rfl
  rw [this]
  rfl
section WWH
variable {o m sp sl hm : Nat} {T : xT} {b sE : Int → Int} {cnt : Nat} {pa : Nat → Nat} {G G' G1 G2 : tG} {C C' C1 C2 M : mA} {S : Nat → Prop} {L k k' k1 k2 cr : Nat} {wst : Nat → tG → mA → Nat → Nat → Int → Nat → Int → Int → wQ → Prop}
theorem WE.lent (hE : WE o m sp sl hm T b sE cnt pa G C) (hW2 : WI m sp sl hm G2 C2) (F1 : WFr o m sp S L k G C k2 G2 C2) (ff2 : ∀ f a j, f ≠ 0 → f ≠ 31 → f ≠ 32 → f ≠ 35 → f ≠ 7 → C2 f a j = C f a j) : WE o m sp sl hm T b sE cnt pa G2 C2 := ⟨hW2, ⟨by rw [F1.2.1 7 o 0 (by omega)]; exact hE.2.1.1, by rw [F1.2.1 7 o 1 (by omega)]; exact hE.2.1.2⟩, hE.2.2.1.fr (fun f a j q => ff2 f a j (by omega) (by omega) (by omega) (by omega) (by omega)), hE.2.2.2.1.fr (fun f a j q => ff2 f a j (by omega) (by omega) (by omega) (by omega) (by omega)), hE.2.2.2.2.fr (fun f a j q => ff2 f a j (by omega) (by omega) (by omega) (by omega) (by omega)) (fun a j => ff2 28 a j (by omega) (by omega) (by omega) (by omega) (by omega)) (fun a j => ff2 29 a j (by omega) (by omega) (by omega) (by omega) (by omega))⟩
theorem wTb.ru (h : wTb T b sE cnt pa C) : True := trivial
/-- what is kept of a run is right -/
theorem WE.kept {q d : Nat} {fits : Int} (hE : WE o m sp sl hm T b sE cnt pa G C) (hq : q < cnt) (hd : d < 10) (hf : (fits = 1 ∧ ∃ R, sRn T 40 q d = some R ∧ CWs C cr R) ∨ (fits = 0 ∧ sRn T 40 q d = none)) (hg : g32 (C 0 cr 2)) : ∃ C', f_Runs_keep C (C 2 (pa q) 12).toNat d cr fits = some (0, C') ∧ WE o m sp sl hm T b sE cnt pa G C' ∧ WFr o m sp (fun _ => False) L k G C k G C' ∧ C' 7 o 2 = C 7 o 2 ∧ C' 28 (wSd C (pa q)) d ≠ 0 ∧ ∀ f a j, f ≠ 28 → f ≠ 29 → f ≠ 23 → C' f a j = C f a j := by
  obtain ⟨C', a1, a2, a3, a4⟩ := c_keepR (C0 := C) (cr := cr) (ru := (C 2 (pa q) 12).toNat) (fits := fits) hd (by rcases hf with ⟨x, -⟩ | ⟨x, -⟩ <;> omega) hg
  have fo : ∀ f a j, f ≠ 28 → f ≠ 29 → f ≠ 23 → C' f a j = C f a j := fun f a j q1 q2 q3 => a4 f a j (by omega)
  have ne : C' 28 (wSd C (pa q)) d ≠ 0 := by
    show C' 28 (C 4 (C 2 (pa q) 12).toNat 0).toNat d ≠ 0
    rw [a2]
    split <;> decide
  obtain ⟨hW, ⟨h0, h1⟩, hT, hR, hA⟩ := hE
  have fs : ∀ f a j, (f = 2 ∧ j < 13) ∨ f = 4 → C' f a j = C f a j := fun f a j q => fo f a j (by omega) (by omega) (by omega)
  refine ⟨C', a1, ⟨hW.cg (fun a ha => ⟨fo 0 a 0 (by omega) (by omega) (by omega), fo 0 a 1 (by omega) (by omega) (by omega), by rw [fo 0 a 2 (by omega) (by omega) (by omega)]; exact (hW.2.1 a ha).2.2.2.2.1, by rw [fo 0 a 3 (by omega) (by omega) (by omega)]; exact (hW.2.1 a ha).2.2.2.2.2⟩) (fun j _ => fo 1 m j (by omega) (by omega) (by omega)) (fun j => fo 33 sl j (by omega) (by omega) (by omega)) (fun i _ => fo 35 sp i (by omega) (by omega) (by omega)), ⟨by rw [fo 7 o 0 (by omega) (by omega) (by omega)]; exact h0, by rw [fo 7 o 1 (by omega) (by omega) (by omega)]; exact h1⟩, hT.fr (fun f a j q => fo f a j (by omega) (by omega) (by omega)), hR.fr fs, fun p hp d' hd' => ?_⟩, ⟨fun _ _ q => q, fun f a j q => fo f a j (by omega) (by omega) (by omega), fun a _ _ => ⟨fun j => fo 0 a j (by omega) (by omega) (by omega), fun j => fo 31 _ j (by omega) (by omega) (by omega), fun j => fo 32 _ j (by omega) (by omega) (by omega)⟩, fun i _ _ => fo 35 sp i (by omega) (by omega) (by omega), fun i _ q1 q2 => by rw [fo 35 sp i (by omega) (by omega) (by omega)] at q2; omega, by rw [show nul C' sp = nul C sp from nulN_cg 40 (fun i _ => fo 35 sp i (by omega) (by omega) (by omega))], fun a j q9 => ?_⟩, fo 7 o 2 (by omega) (by omega) (by omega), ne, fo⟩
  · rw [(wSd.fr fs _).1, (wSd.fr fs _).2]
    by_cases z : p = q ∧ d' = d
    · obtain ⟨rfl, rfl⟩ := z
      rcases hf with ⟨rfl, R, r1, r2⟩ | ⟨rfl, r1⟩
      · refine Or.inr (Or.inl ⟨?_, R, r1, fun v hv => a3 R r2 v hv⟩)
        show C' 28 (C 4 (C 2 (pa p) 12).toNat 0).toNat d' = 1
        rw [a2]
        rfl
      · refine Or.inr (Or.inr ⟨?_, r1⟩)
        show C' 28 (C 4 (C 2 (pa p) 12).toNat 0).toNat d' = 2
        rw [a2]
        rfl
    · have e28 : C' 28 (wSd C (pa p)) d' = C 28 (wSd C (pa p)) d' := a4 28 _ d' (by
        rintro (⟨-, y1, y2⟩ | ⟨y, -⟩ | ⟨y, -⟩)
        · by_cases e : p = q
          · exact z ⟨e, y2⟩
          · exact (hR p q hp hq e).1 y1
        · omega
        · omega)
      have e29 : ∀ v : Nat, v < 10 → C' 29 (wWw C (pa p)) (d' * 10 + v) = C 29 (wWw C (pa p)) (d' * 10 + v) := fun v hv => a4 29 _ _ (by
        rintro (⟨y, -⟩ | ⟨-, y1, y2⟩ | ⟨y, -⟩)
        · omega
        · by_cases e : p = q
          · exact z ⟨e, by omega⟩
          · exact (hR p q hp hq e).2 y1
        · omega)
      rw [e28]
      rcases hA p hp d' hd' with x | ⟨x1, R, x2, x3⟩ | x
      · exact Or.inl x
      · exact Or.inr (Or.inl ⟨x1, R, x2, fun v hv => by rw [e29 v hv]; exact x3 v hv⟩)
      · exact Or.inr (Or.inr x)
  · by_cases y : a = (C 4 (C 2 (pa q) 12).toNat 0).toNat ∧ j = d
    · obtain ⟨rfl, rfl⟩ := y
      exact ne
    · rw [a4 28 a j (by omega)]
      exact q9
set_option maxHeartbeats 1000000 in
theorem w_whole (hT : TB T b cnt) {n : Nat} (hBS : wBS o m sp sl hm T b sE cnt pa wst n) {q d : Nat} {dd' : Int} {Q : wQ} (hq : q < cnt) (hdn : dep q 0 < n) (hd : d < 10) (hE : WE o m sp sl hm T b sE cnt pa G C) (h7 : C 7 o 2 = (L : Int)) (hn : nul C sp ≤ k) (hL : L + dep q 0 + 1 < 40) (hd0 : 0 ≤ dd') (hd4 : dd' + dep q 0 ≤ 40)
    (hQ : ∀ (k' : Nat) (G' : tG) (C' : mA), WE o m sp sl hm T b sE cnt pa G' C' → WFr o m sp (fun a => wFree C sp L a) L k G C k' G' C' → C' 7 o 2 = (L : Int) → C' 28 (wSd C' (pa q)) d ≠ 0 → Q 0 C' G' k') : w_Walk_walkWhole wst k G C o (pa q) d dd' Q := by
  have hc6 := hT.1
  obtain ⟨ho, hX, hb, hb0, hb1⟩ := hT.2 q hq
  unfold w_Walk_walkWhole
  refine w_lend9 hE.1 hE.2.1.2 h7 (by omega) hn (fun r C2 G2 k2 hW2 F1 e72 e35 gr hne hn2 ff2 => ?_)
  have hE2 := hE.lent hW2 F1 ff2
  obtain ⟨v1, v2⟩ := wd_ud (n := 0) (v := (d : Int)) vs9_0 (by decide) (by omega)
  rw [ud_0] at v2
  have v3 : ud (wd 0 0 d) = (d : Int) * 100000 := v2.trans tn9_dg
  obtain ⟨C3, s1, s2, s3, s4⟩ := c_crB (C := C2) (cr := r) (s := wd 0 0 d) rfl rfl v1
  rw [v3] at s2
  obtain ⟨hE3, F2⟩ := hE2.soft (C' := C3) (S := fun a => a = r) (L := L) (k := k2) (fun a z => by rw [z]; exact gr) (fun f a j z => s4 f a j (by
    rintro (⟨y1, y2⟩ | ⟨y1, y2⟩ | ⟨y1, y2, y3⟩)
    · exact z (Or.inr (Or.inl ⟨y1, Or.inr (Or.inr ⟨r, rfl, y2⟩)⟩))
    · exact z (Or.inr (Or.inr (Or.inl ⟨y1, Or.inr ⟨r, rfl, y2⟩⟩)))
    · exact z (Or.inl ⟨y1, y2, y3⟩)))
    (fun a z => by rw [z]; exact ⟨s2.g2, by rw [s3]; decide⟩) (fun x hx => by rw [s4 33 sl x (by omega)]; exact hW2.1.1.2.2.2.2.2 x hx)
  have e73 : C3 7 o 2 = ((L + 1 : Nat) : Int) := by rw [s4 7 o 2 (by omega)]; exact e72
  have e353 : C3 35 sp L = (r : Int) := by rw [s4 35 sp L (by omega)]; exact e35
  have nfr : ¬ wFree C3 sp (L + 1) r := fun z => by
    obtain ⟨i, z1, z2, z3, z4⟩ := z
    obtain ⟨-, u2⟩ := hE3.1.2.2.2 i z2 z3
    have := u2 L (by omega) (by omega) (by rw [e353]; exact Int.natCast_nonneg r)
    rw [e353, z4] at this
    exact this (Int.toNat_natCast r)
  have F12 : WFr o m sp (fun a => wFree C sp L a) L k G C k2 G2 C3 := (F1.sub (fun _ _ z => z.elim) (Nat.le_refl L)).trans F2 (fun a ha z => by
    by_cases y : wFree C sp L a
    · exact y
    · exact absurd z (hne a ha y))
  rw [if_pos (Int.natCast_nonneg r)]
  refine ⟨(wd 0 0 d, C2), rfl, (0, C3), by simp only [Int.toNat_natCast]; exact s1, ?_⟩
  simp only [Int.toNat_natCast]
  have hN := (hE3.2.2.1 q hq).1.1
  rw [hN]
  have hl : gdL 0 [((d : Int) * 100000, 1125899906842624)] := gd_one (by omega)
  refine hBS q 0 (T q).1 r (L + 1) k2 0 (-1) dd' 0 G2 C3 [((d : Int) * 100000, 1125899906842624)] _ hq ho.2.1 (Nat.le_refl _) (Int.le_refl _) hdn (by decide) ⟨hE3, gr, nfr, e73, by rw [show nul C3 sp = nul C2 sp from nulN_cg 40 (fun z _ => s4 35 sp z (by omega))]; exact hn2, CWs.of s2, Int.le_refl _, hl⟩ (by omega) hd0 hd4 (by rw [← hb]; omega) (fun r4 k4 G4 C4 hP4 => ?_)
  obtain ⟨hE4, F3, e74, hR4⟩ := hP4
  have F13 : WFr o m sp (fun a => wFree C sp L a) L k G C k4 G4 C4 := F12.trans (F3.sub (fun _ _ z => z) (Nat.le_succ L)) (fun a ha z => by
    rcases z with z | z
    · by_cases y : wFree C sp L a
      · exact y
      · exact absurd z (hne a ha y)
    · exact (F12.free ha z).mono (Nat.le_succ L))
  have gr4 : G4 r = some 0 := F3.1 _ _ gr
  obtain ⟨C5, t1, t2, t3, t4, t5, t6⟩ := hE4.kept (cr := r) (L := L) (k := k4) (fits := r4) hq hd (by
    rcases hR4 with ⟨y1, l', y2, y3, y4, y5⟩ | ⟨y1, y2⟩
    · exact Or.inl ⟨y1, l', y5 rfl, y2⟩
    · exact Or.inr ⟨y1, y2 rfl⟩) (hE4.1.2.1 r gr4).2.2.2.2.1
  obtain ⟨C6, g1, g2, g3, g4, g5⟩ := w_give (k := k4) t2 (t4.trans e74) (by omega)
  refine ⟨(0, C5), t1, (0, C6), g1, hQ k4 G4 C6 g2 ((F13.trans t3 (fun _ _ z => z.elim)).trans g3 (fun _ _ z => z.elim)) g4 ?_⟩
  have e1 : wSd C6 (pa q) = wSd C4 (pa q) := (wSd.fr (fun f a j z => (g5 f a j (by omega)).trans (t6 f a j (by omega) (by omega) (by omega))) _).1
  rw [e1, g5 28 _ d (by omega)]
  exact t5
theorem c_isKnown {pr d : Nat} (hd : d < 10) (hg : g32 (C 28 (wSd C pr) d)) : f_Runs_isKnown C (C 2 pr 12).toNat d = some (if C 28 (wSd C pr) d = 0 then 0 else 1, C) := by
  unfold f_Runs_isKnown
  rw [c_isValue (show g32 (d : Int) by unfold g32; omega), obind, if_pos (show 0 ≤ (d : Int) ∧ (d : Int) < 10 by omega)]
  show (if g32 (1 : Int) then (if (1 : Int) = 0 then (some (0, C)) else (if (0 ≤ (d : Int) ∧ (d : Int) < ((10 : Nat) : Int)) then (if g32 (C 28 (wSd C pr) ((d : Int)).toNat) then (if C 28 (wSd C pr) ((d : Int)).toNat = 0 then (some ((0 : Int), C)) else (some (1, C))) else none) else none)) else none) = _
  rw [if_pos (show g32 (1 : Int) by decide), if_neg (show ¬ (1 : Int) = 0 by decide), if_pos (show 0 ≤ (d : Int) ∧ (d : Int) < ((10 : Nat) : Int) by omega), Int.toNat_natCast, if_pos hg]
  split <;> rfl
theorem c_fitsR {pr d : Nat} (hd : d < 10) (hg : g32 (C 28 (wSd C pr) d)) : f_Runs_fits C (C 2 pr 12).toNat d = some (if C 28 (wSd C pr) d = 1 then 1 else 0, C) := by
  unfold f_Runs_fits
  rw [c_isValue (show g32 (d : Int) by unfold g32; omega), obind, if_pos (show 0 ≤ (d : Int) ∧ (d : Int) < 10 by omega)]
  show (if g32 (1 : Int) then (if (1 : Int) = 0 then (some (0, C)) else (if (0 ≤ (d : Int) ∧ (d : Int) < ((10 : Nat) : Int)) then (if g32 (C 28 (wSd C pr) ((d : Int)).toNat) then (if C 28 (wSd C pr) ((d : Int)).toNat = 1 then (some ((1 : Int), C)) else (some (0, C))) else none) else none)) else none) = _
  rw [if_pos (show g32 (1 : Int) by decide), if_neg (show ¬ (1 : Int) = 0 by decide), if_pos (show 0 ≤ (d : Int) ∧ (d : Int) < ((10 : Nat) : Int) by omega), Int.toNat_natCast, if_pos hg]
  split <;> rfl
set_option maxHeartbeats 1000000 in
/-- all that the states run is gone through first -/
theorem w_canRun (hT : TB T b cnt) (hM : mTab T cnt M) {n : Nat} (hBS : wBS o m sp sl hm T b sE cnt pa wst n) {p i Q' : Nat} {d : Int} {l : List xE} {C0 : mA} {G0 : tG} {k0 : Nat} {Q : wQ} (hp : p < cnt) (hi : i < (T p).1) (k5 : sK ((T p).2 i) = 5) (hQe : sU ((T p).2 i) = (Q' : Int)) (hdn : dep Q' 0 < n) (gcr : G0 cr = some 0) (hfree : ¬ wFree C0 sp L cr) (hc : CWs C0 cr l) (hn0 : nul C0 sp ≤ k0) (hL : L + dep Q' 0 + 1 < 40) (hd0 : 0 ≤ d) (hd4 : d + 1 + dep Q' 0 ≤ 40)
    (hQ : ∀ (r : Int) (k' : Nat) (G' : tG) (C' : mA), WE o m sp sl hm T b sE cnt pa G' C' → WFr o m sp (fun a => wFree C0 sp L a) L k0 G0 C0 k' G' C' → C' 7 o 2 = (L : Int) → ((r = 1 ∧ ∀ q ∈ l, ∀ D : Nat, xv ((T p).2 i) q.1 % 10 = D → C' 28 (wSd C' (pa Q')) D ≠ 0 ∧ (sRn T 40 Q' D).isSome = true) ∨ (r = 0 ∧ ∃ q ∈ l, (sRn T 40 Q' (xv ((T p).2 i) q.1 % 10)).isSome = false)) → Q r C' G' k') : ∀ (F j k : Nat) (G : tG) (C : mA), j ≤ l.length → l.length - j < F → WE o m sp sl hm T b sE cnt pa G C → WFr o m sp (fun a => wFree C0 sp L a) L k0 G0 C0 k G C → C 7 o 2 = (L : Int) → (∀ q ∈ l.take j, ∀ D : Nat, xv ((T p).2 i) q.1 % 10 = D → C 28 (wSd C (pa Q')) D ≠ 0 ∧ (sRn T 40 Q' D).isSome = true) → w_Walk_canRun_6 wst F k G C o (pa p) (sAd C0 (pa p) i) cr (pa Q') d 1 j Q := by
  have hc6 := hT.1
  obtain ⟨ho, hX, -⟩ := hT.2 p hp
  have h16 := ho.1
  obtain ⟨⟨hk0, hv, hi1, h3, h4, h5, -⟩, h9⟩ := ho.2.2 i hi
  obtain ⟨u1, u2⟩ := h5 k5
  have hQc : Q' < cnt := by omega
  have hlen := hc.len
  have hsz := hc.2.2.1
  intro F
  induction F with
  | zero => intro j k G C _ h; omega
  | succ F ih =>
    intro j k G C h1 h2 hE hF h7 hok
    have hcC : CWs C cr l := hF.cw gcr hfree hc
    have hsz' : C 0 cr 2 = ((l.length : Nat) : Int) := hcC.2.2.1
    unfold w_Walk_canRun_6
    rw [hsz', if_pos (show g32 (j : Int) by unfold g32; omega), if_pos (show g32 ((l.length : Nat) : Int) by unfold g32; omega)]
    by_cases z : l.length ≤ j
    · rw [if_pos (show ((l.length : Nat) : Int) ≤ j by omega), if_pos (show (1 : Int) = 0 ∨ (1 : Int) = 1 from Or.inr rfl)]
      rw [List.take_of_length_le z] at hok
      exact hQ 1 k G C hE hF h7 (Or.inl ⟨rfl, hok⟩)
    · have hj : j < l.length := by omega
      obtain ⟨q, hq⟩ : ∃ q, q = l[j] := ⟨_, rfl⟩
      obtain ⟨a1, a2⟩ := CW.at hcC hj
      rw [← hq] at a1
      have hqm : q ∈ l := by rw [hq]; exact List.getElem_mem hj
      rw [if_neg (show ¬ ((l.length : Nat) : Int) ≤ j by omega), if_neg (show ¬ (300 : Int) ≤ j by omega), if_pos (show g32 (1 : Int) by decide), if_neg (show ¬ (1 : Int) = 0 by decide), if_pos (show 0 ≤ (j : Int) ∧ (j : Int) < ((300 : Nat) : Int) by omega), Int.toNat_natCast]
      have hS := ((hE.2.2.1 p hp).2 i hi).1
      have hsa : sAd C (pa p) i = sAd C0 (pa p) i := by unfold sAd; rw [hF.2.1 2 _ 0 (by omega), hF.2.1 25 _ _ (by omega)]
      obtain ⟨C1, d1, d2⟩ := c_xd (P := p) (A := M) (by omega) hS ((hM p hp).2 i hi) (by omega) (by omega) a2 a2.tn
      have eq1 : ud (C 31 (C 0 cr 0).toNat j) = q.1 := by rw [a1]
      rw [eq1, hsa] at d1
      have hd9 : 0 ≤ xv ((T p).2 i) q.1 % 10 ∧ xv ((T p).2 i) q.1 % 10 ≤ 9 := by omega
      obtain ⟨D, hD⟩ : ∃ D : Nat, xv ((T p).2 i) q.1 % 10 = D := ⟨(xv ((T p).2 i) q.1 % 10).toNat, by omega⟩
      rw [hD] at d1
      have f1 : ∀ f a j, f ≠ 37 → C1 f a j = C f a j := fun f a j z => d2 f a j (by omega)
      obtain ⟨hE1, F1⟩ := hE.soft (C' := C1) (S := fun _ => False) (L := L) (k := k) (fun _ z => z.elim) (fun f a j z => f1 f a j (by omega)) (fun _ z => z.elim) (fun x hx => by rw [f1 33 sl x (by omega)]; exact hE.1.1.1.2.2.2.2.2 x hx)
      have F01 := hF.trans F1 (fun _ _ z => z.elim)
      have e71 : C1 7 o 2 = (L : Int) := by rw [f1 7 o 2 (by omega)]; exact h7
      have fsd : ∀ pr, wSd C1 pr = wSd C pr := fun pr => (wSd.fr (fun f a j z => f1 f a j (by omega)) pr).1
      have hca := hE1.2.2.2.2 Q' hQc D (by omega)
      have g28 : ∀ (C9 : mA), wCa T cnt pa C9 → g32 (C9 28 (wSd C9 (pa Q')) D) := fun C9 h => by
        rcases h Q' hQc D (by omega) with y | ⟨y, -⟩ | ⟨y, -⟩ <;> rw [y] <;> decide
      have ej : ((j : Int) + 1) = ((j + 1 : Nat) : Int) := by omega
      -- behind what is known
      have next : ∀ (k9 : Nat) (G9 : tG) (C9 : mA), WE o m sp sl hm T b sE cnt pa G9 C9 → WFr o m sp (fun a => wFree C0 sp L a) L k0 G0 C0 k9 G9 C9 → C9 7 o 2 = (L : Int) → C9 28 (wSd C9 (pa Q')) D ≠ 0 → (∀ q ∈ l.take j, ∀ D : Nat, xv ((T p).2 i) q.1 % 10 = D → C9 28 (wSd C9 (pa Q')) D ≠ 0 ∧ (sRn T 40 Q' D).isSome = true) → ∃ q31, f_Runs_fits C9 ((C9 2 (pa Q') 12).toNat) D = some q31 ∧ w_Walk_canRun_6 wst F k9 G9 q31.2 o (pa p) (sAd C0 (pa p) i) cr (pa Q') d q31.1 ((j : Int) + 1) Q := fun k9 G9 C9 hE9 hF9 e79 hne hok9 => by
        rw [ej]
        refine ⟨_, c_fitsR (by omega) (g28 C9 hE9.2.2.2.2), ?_⟩
        show w_Walk_canRun_6 wst F k9 G9 C9 o (pa p) (sAd C0 (pa p) i) cr (pa Q') d (if C9 28 (wSd C9 (pa Q')) D = 1 then 1 else 0) ((j + 1 : Nat) : Int) Q
        rcases hE9.2.2.2.2 Q' hQc D (by omega) with y | ⟨y, R, y2, -⟩ | ⟨y, y2⟩
        · exact absurd y hne
        · rw [if_pos y]
          refine ih (j + 1) k9 G9 C9 hj (by omega) hE9 hF9 e79 (fun q' hq' D' hD' => ?_)
          rw [take_s hj] at hq'
          rcases List.mem_append.mp hq' with x | x
          · exact hok9 q' x D' hD'
          · have x : q' = q := by rw [hq]; simpa using x
            rw [x, hD] at hD'
            have : D = D' := by omega
            rw [← this]
            exact ⟨by rw [y]; decide, by rw [y2]; rfl⟩
        · rw [if_neg (by omega)]
          have fl : Q 0 C9 G9 k9 := hQ 0 k9 G9 C9 hE9 hF9 e79 (Or.inr ⟨rfl, q, hqm, by rw [hD, y2]; rfl⟩)
          obtain ⟨F, rfl⟩ : ∃ w, F = w + 1 := ⟨F - 1, by omega⟩
          have hsz9 : C9 0 cr 2 = ((l.length : Nat) : Int) := (hF9.cw gcr hfree hc).2.2.1
          unfold w_Walk_canRun_6
          rw [hsz9, if_pos (show g32 ((j + 1 : Nat) : Int) by unfold g32; omega), if_pos (show g32 ((l.length : Nat) : Int) by unfold g32; omega), if_pos (show (0 : Int) = 0 ∨ (0 : Int) = 1 from Or.inl rfl), if_pos (show g32 (0 : Int) by decide), if_pos rfl]
          by_cases x1 : ((l.length : Nat) : Int) ≤ ((j + 1 : Nat) : Int)
          · rw [if_pos x1]; exact fl
          · rw [if_neg x1]
            by_cases x2 : (300 : Int) ≤ ((j + 1 : Nat) : Int)
            · rw [if_pos x2]; exact fl
            · rw [if_neg x2]; exact fl
      refine ⟨((D : Int), C1), d1, (_, C1), c_isKnown (by omega) (g28 C1 hE1.2.2.2.2), ?_⟩
      have hok1 : ∀ q ∈ l.take j, ∀ D : Nat, xv ((T p).2 i) q.1 % 10 = D → C1 28 (wSd C1 (pa Q')) D ≠ 0 ∧ (sRn T 40 Q' D).isSome = true := fun q' hq' D' hD' => by
        rw [fsd, f1 28 _ D' (by omega)]
        exact hok q' hq' D' hD'
      by_cases y : C1 28 (wSd C1 (pa Q')) D = 0
      · rw [if_pos y]
        show (if g32 (0 : Int) then (if (0 : Int) = 0 then w_Walk_walkWhole wst k G C1 o (pa Q') D (d + 1) _ else _) else False)
        rw [if_pos (show g32 (0 : Int) by decide), if_pos rfl]
        refine w_whole hT hBS hQc hdn (by omega) hE1 e71 (F01.nul hn0) hL (by omega) hd4 (fun k9 G9 C9 hE9 F9 e79 hne9 => ?_)
        have F09 := F01.trans F9 (fun a ha z => F01.free ha z)
        refine next k9 G9 C9 hE9 F09 e79 hne9 (fun q' hq' D' hD' => ?_)
        obtain ⟨w1, w2⟩ := hok1 q' hq' D' hD'
        have e9 : wSd C9 (pa Q') = wSd C1 (pa Q') := (wSd.fr (fun f a j z => F9.2.1 f a j (by omega)) _).1
        rw [e9]
        exact ⟨F9.2.2.2.2.2.2 _ _ w1, w2⟩
      · rw [if_neg y]
        show (if g32 (1 : Int) then (if (1 : Int) = 0 then _ else ∃ q20, f_Runs_fits C1 ((C1 2 (pa Q') 12).toNat) D = some q20 ∧ w_Walk_canRun_6 wst F k G q20.2 o (pa p) (sAd C0 (pa p) i) cr (pa Q') d q20.1 ((j : Int) + 1) Q) else False)
        rw [if_pos (show g32 (1 : Int) by decide), if_neg (show ¬ (1 : Int) = 0 by decide)]
        exact next k G C1 hE1 F01 e71 y hok1
end WWH
