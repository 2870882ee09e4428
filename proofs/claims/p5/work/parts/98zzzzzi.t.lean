/-! the class: where a program ends (own work) -/
section WEND
variable {o m sp sl hm : Nat} {T : xT} {b sE : Int → Int} {cnt : Nat} {pa : Nat → Nat} {md : Nat → Prop} {G G' : tG} {C C' M : mA} {L k cr : Nat}
theorem WI.crW {c s t : Nat} (h : WI m sp sl hm G C) (hf : crF G c s t) : WI m sp sl hm (crG G c s t) (crI C c s t) := by
  obtain ⟨v1, v2, v3⟩ := cr_vals hf
  have go := crG_go hf
  obtain ⟨f1, f2, f3, f4, f5, f6⟩ := id hf
  obtain ⟨⟨a1, a2, a3, a4⟩, b, cc, d⟩ := h
  have ne : ∀ {x y τ}, G x = some τ → G y = none → x ≠ y := fun h1 h2 q => by rw [q, h2] at h1; cases h1
  have w0 : ∀ f a j, ¬ (f = 0 ∧ a = c) → ¬ (f = 31 ∧ a = s) → ¬ (f = 32 ∧ a = t) → crI C c s t f a j = C f a j := fun f a j q2 q3 q4 => crI_o ⟨q2, q3, q4⟩
  have wc0 : crI C c s t 0 c 0 = (s : Int) := by unfold crI; rw [if_pos ⟨rfl, rfl⟩, if_pos rfl]
  have wc1 : crI C c s t 0 c 1 = (t : Int) := by unfold crI; rw [if_pos ⟨rfl, rfl⟩, if_neg (by decide), if_pos rfl]
  have wc2 : crI C c s t 0 c 2 = 0 := by unfold crI; rw [if_pos ⟨rfl, rfl⟩, if_neg (by decide), if_neg (by decide)]
  have wc3 : crI C c s t 0 c 3 = 0 := by unfold crI; rw [if_pos ⟨rfl, rfl⟩, if_neg (by decide), if_neg (by decide)]
  have m1 : ∀ j, crI C c s t 1 m j = C 1 m j := fun j => w0 1 m j (by omega) (by omega) (by omega)
  have old : ∀ a, crG G c s t a = some 0 → a ≠ c → G a = some 0 := fun a ha hac => by
    by_cases q1 : a = s
    · rw [q1, v2] at ha; cases ha
    by_cases q2 : a = t
    · rw [q2, v3] at ha; cases ha
    rw [gext_o hac q1 q2] at ha
    exact ha
  have o0 : ∀ a, a ≠ c → ∀ j, crI C c s t 0 a j = C 0 a j := fun a q j => w0 0 a j (by omega) (by omega) (by omega)
  have w35 : ∀ i, crI C c s t 35 sp i = C 35 sp i := fun i => w0 35 sp i (by omega) (by omega) (by omega)
  refine ⟨⟨?_, by rw [m1]; exact go _ _ a2, by rw [m1]; exact go _ _ a3, go _ _ a4⟩, fun a ha => ?_, fun a a' ha ha' hna => ?_, fun i hi q => ?_⟩
  · rw [m1, m1]
    exact mx0.cg a1 (fun j _ => m1 j) (fun j => w0 33 sl j (by omega) (by omega) (by omega))
  · by_cases q : a = c
    · subst q
      rw [wc0, wc1, m1, m1, Int.toNat_natCast, Int.toNat_natCast]
      exact ⟨⟨v2, v3⟩, fun z => ne a2 f2 z.symm, fun z => ne a4 f2 z.symm, fun z => ne a3 f3 z.symm, ⟨by rw [wc2]; decide, by rw [wc3]; decide⟩⟩
    · obtain ⟨⟨b1, b2⟩, b3, b4, b5, b6⟩ := b a (old a ha q)
      rw [o0 a q 0, o0 a q 1, m1, m1]
      exact ⟨⟨go _ _ b1, go _ _ b2⟩, b3, b4, b5, ⟨by rw [o0 a q]; exact b6.1, by rw [o0 a q]; exact b6.2⟩⟩
  · have one : ∀ a, G a = some 0 → a ≠ c → (crI C c s t 0 c 0).toNat ≠ (crI C c s t 0 a 0).toNat ∧ (crI C c s t 0 c 1).toNat ≠ (crI C c s t 0 a 1).toNat := fun a ha q => by
      obtain ⟨⟨b1, b2⟩, -⟩ := b a ha
      rw [wc0, wc1, o0 a q, o0 a q, Int.toNat_natCast, Int.toNat_natCast]
      exact ⟨fun z => ne b1 f2 z.symm, fun z => ne b2 f3 z.symm⟩
    by_cases q : a = c
    · subst q
      exact one a' (old a' ha' (Ne.symm hna)) (Ne.symm hna)
    · by_cases q' : a' = c
      · subst q'
        obtain ⟨x, y⟩ := one a (old a ha q) q
        exact ⟨fun z => x z.symm, fun z => y z.symm⟩
      · rw [o0 a q, o0 a q, o0 a' q', o0 a' q']
        exact cc a a' (old a ha q) (old a' ha' q') hna
  · rw [w35] at q ⊢
    obtain ⟨d1, d2⟩ := d i hi q
    exact ⟨go _ _ d1, fun j hj hne q2 => by rw [w35] at q2 ⊢; exact d2 j hj hne q2⟩
/-- ends share nothing: with one another, with spares -/
def wEa (pa : Nat → Nat) (md : Nat → Prop) (sp : Nat) (G : tG) (C : mA) : Prop := ∀ p, p < 6 → md p → 0 ≤ C 2 (pa p) 13 → (G (C 2 (pa p) 13).toNat = some 0 ∧ ¬ wFree C sp 0 (C 2 (pa p) 13).toNat) ∧ ∀ p', p' < 6 → md p' → p' ≠ p → 0 ≤ C 2 (pa p') 13 → (C 2 (pa p') 13).toNat ≠ (C 2 (pa p) 13).toNat
/-- what is kept of ends is right -/
def wEn (T : xT) (cnt : Nat) (pa : Nat → Nat) (C : mA) : Prop := ∀ p, p < cnt → C 2 (pa p) 14 = -1 ∨ (vs9 (C 2 (pa p) 14) ∧ 0 ≤ C 2 (pa p) 13 ∧ ((C 2 (pa p) 15 = 1 ∧ ∃ l, sEnd T 40 p (ud (C 2 (pa p) 14)) = some l ∧ CWs C (C 2 (pa p) 13).toNat l) ∨ (C 2 (pa p) 15 = 0 ∧ sEnd T 40 p (ud (C 2 (pa p) 14)) = none)))
/-- what asking for an end may change -/
def wEf (o m sp : Nat) (pr : Nat) (C C' : mA) : Prop := ∀ f a j, ¬ (f = 0 ∨ (f = 1 ∧ a = m ∧ j < 3) ∨ f = 23 ∨ f = 28 ∨ f = 29 ∨ f = 31 ∨ f = 32 ∨ f = 33 ∨ (f = 35 ∧ a = sp) ∨ f = 37 ∨ (f = 7 ∧ a = o ∧ j = 2) ∨ (f = 2 ∧ a = pr ∧ 13 ≤ j)) → C' f a j = C f a j
theorem WE.pr {pr : Nat} (hE : WE o m sp sl hm T b sE cnt pa G C) (hf : ∀ f a j, ¬ (f = 2 ∧ a = pr ∧ 13 ≤ j) → C' f a j = C f a j) : WE o m sp sl hm T b sE cnt pa G C' := by
  obtain ⟨hW, ⟨h0, h1⟩, hT, hR, hA⟩ := hE
  exact ⟨hW.cg (fun a ha => ⟨hf 0 a 0 (by omega), hf 0 a 1 (by omega), by rw [hf 0 a 2 (by omega)]; exact (hW.2.1 a ha).2.2.2.2.1, by rw [hf 0 a 3 (by omega)]; exact (hW.2.1 a ha).2.2.2.2.2⟩) (fun j _ => hf 1 m j (by omega)) (fun j => hf 33 sl j (by omega)) (fun i _ => hf 35 sp i (by omega)), ⟨by rw [hf 7 o 0 (by omega)]; exact h0, by rw [hf 7 o 1 (by omega)]; exact h1⟩, hT.fr (fun f a j q => hf f a j (by omega)), hR.fr (fun f a j q => hf f a j (by omega)), hA.fr (fun f a j q => hf f a j (by omega)) (fun a j => hf 28 a j (by omega)) (fun a j => hf 29 a j (by omega))⟩
set_option maxHeartbeats 1000000 in
/-- the walk to the end, in a crowd of its own -/
theorem w_endGo (hT : TB T b cnt) (hM : mTab T cnt M) (hs : ∀ u : Nat, u < cnt → sE u = 0 ∨ sE u = 1) {p : Nat} {s : Int} {Q : wQ} (hp : p < cnt) (h6 : ∀ p p', p < 6 → p' < 6 → md p → md p' → p ≠ p' → pa p ≠ pa p') (hmd : ∀ p, p < cnt → md p) (hE : WE o m sp sl hm T b sE cnt pa G C) (h7 : C 7 o 2 = 0) (hn : nul C sp ≤ k) (hEa : wEa pa md sp G C) (hEn : wEn T cnt pa C) (hss : vs9 s) (h13 : 0 ≤ C 2 (pa p) 13)
    (hQ : ∀ (r : Int) (k' : Nat) (G' : tG) (C' : mA), WE o m sp sl hm T b sE cnt pa G' C' → (∀ a τ, G a = some τ → G' a = some τ) → wEf o m sp (pa p) C C' → C' 7 o 2 = 0 → nul C sp + k' = nul C' sp + k → (C' 2 (pa p) 13 = C 2 (pa p) 13 ∧ C' 2 (pa p) 14 = s) → wEa pa md sp G' C' → wEn T cnt pa C' → ((r = -1 ∧ sEnd T 40 p (ud s) = none) ∨ (r = (((C 2 (pa p) 13).toNat : Nat) : Int) ∧ ∃ l, sEnd T 40 p (ud s) = some l ∧ CWs C' (C 2 (pa p) 13).toNat l)) → Q r C' G' k') :
    (∃ q10, f_Crowd_begin (mu C 2 (pa p) 14 s) ((C 2 (pa p) 13).toNat) s = some q10 ∧ (if 0 ≤ (q10.2 2 (pa p) 13) then (w_Walk_walkBlock (w_Walk_wsN 40) k G q10.2 o (pa p) 0 (q10.2 2 (pa p) 1) ((q10.2 2 (pa p) 13).toNat) (-1) 0 (fun r14 A15 G16 k17 => (if (r14 = 0 ∨ r14 = 1) then (if g32 r14 then (if r14 = 0 then (Q (-1) (mu A15 2 (pa p) 15 r14) G16 k17) else (if 0 ≤ (A15 2 (pa p) 13) then (Q (((A15 2 (pa p) 13).toNat : Nat) : Int) (mu A15 2 (pa p) 15 r14) G16 k17) else False)) else False) else False))) else False)) := by
  have hc6 := hT.1
  obtain ⟨ho, hX, hb, hb0, hb1⟩ := hT.2 p hp
  obtain ⟨cr, hcr⟩ : ∃ cr, cr = (C 2 (pa p) 13).toNat := ⟨_, rfl⟩
  have h13' : C 2 (pa p) 13 = (cr : Int) := by omega
  obtain ⟨⟨gcr, nfr⟩, hoth⟩ := hEa p (by omega) (hmd p hp) h13
  rw [← hcr] at gcr nfr hoth hQ ⊢
  obtain ⟨C1, hC1⟩ : ∃ C1, C1 = mu C 2 (pa p) 14 s := ⟨_, rfl⟩
  have f1 : ∀ f a j, ¬ (f = 2 ∧ a = pa p ∧ j = 14) → C1 f a j = C f a j := fun f a j q => by rw [hC1, mu_ne _ _ (by omega)]
  rw [← hC1]
  have hE1 : WE o m sp sl hm T b sE cnt pa G C1 := hE.pr (pr := pa p) (fun f a j q => f1 f a j (by omega))
  obtain ⟨C2, s1, s2, s3, s4⟩ := c_crB (C := C1) (cr := cr) (s := s) rfl rfl hss
  obtain ⟨hE2, F2⟩ := hE1.soft (C' := C2) (S := fun a => a = cr) (L := 0) (k := k) (fun a z => by rw [z]; exact gcr) (fun f a j z => s4 f a j (by
    rintro (⟨y1, y2⟩ | ⟨y1, y2⟩ | ⟨y1, y2, y3⟩)
    · exact z (Or.inr (Or.inl ⟨y1, Or.inr (Or.inr ⟨cr, rfl, y2⟩)⟩))
    · exact z (Or.inr (Or.inr (Or.inl ⟨y1, Or.inr ⟨cr, rfl, y2⟩⟩)))
    · exact z (Or.inl ⟨y1, y2, y3⟩)))
    (fun a z => by rw [z]; exact ⟨s2.g2, by rw [s3]; decide⟩) (fun x hx => by rw [s4 33 sl x (by omega)]; exact hE1.1.1.1.2.2.2.2.2 x hx)
  have e13 : C2 2 (pa p) 13 = (cr : Int) := by rw [s4 2 _ 13 (by omega), f1 2 _ 13 (by omega)]; exact h13'
  have e14 : C2 2 (pa p) 14 = s := by rw [s4 2 _ 14 (by omega), hC1, mu_at]
  have e7 : C2 7 o 2 = ((0 : Nat) : Int) := by rw [s4 7 o 2 (by omega), f1 7 o 2 (by omega)]; exact h7
  have f35 : ∀ i, C2 35 sp i = C 35 sp i := fun i => by rw [s4 35 sp i (by omega), f1 35 sp i (by omega)]
  have nf2 : ¬ wFree C2 sp 0 cr := fun z => nfr (by
    obtain ⟨i, z1, z2, z3, z4⟩ := z
    exact ⟨i, z1, z2, by rw [← f35]; exact z3, by rw [← f35]; exact z4⟩)
  have en : nul C2 sp = nul C sp := nulN_cg 40 (fun i _ => f35 i)
  have hN := (hE2.2.2.1 p hp).1.1
  have hg : 0 ≤ ud s ∧ ud s ≤ 999999 := hss.tn.1
  refine ⟨(0, C2), s1, ?_⟩
  dsimp only
  rw [if_pos (show 0 ≤ C2 2 (pa p) 13 by rw [e13]; exact Int.natCast_nonneg cr), e13, hN, Int.toNat_natCast]
  refine w_blk hT hs (w_all hT hM hs 40) p 0 (T p).1 cr 0 k 0 (-1) 0 0 G C2 [(ud s, 1125899906842624)] _ hp ho.2.1 (Nat.le_refl _) (Int.le_refl _) (by unfold dep; omega) (by decide) ⟨hE2, gcr, nf2, e7, by rw [en]; exact hn, CWs.of s2, Int.le_refl _, gd_one hg⟩ (by unfold dep; omega) (Int.le_refl _) (by unfold dep; omega) (by rw [← hb]; omega) (fun r k' G' C' hPo => ?_)
  obtain ⟨hE3, F3, e73, hR3⟩ := hPo
  have e13' : C' 2 (pa p) 13 = (cr : Int) := by rw [F3.2.1 2 _ 13 (by omega)]; exact e13
  have fin : ∀ r9 : Int, r = r9 → (r9 = 0 ∨ r9 = 1) → ∀ rr : Int, ((rr = -1 ∧ r9 = 0) ∨ (rr = (cr : Int) ∧ r9 = 1)) → Q rr (mu C' 2 (pa p) 15 r9) G' k' := fun r9 hr9 h01 rr hrr => by
    subst hr9
    have f4 : ∀ f a j, ¬ (f = 2 ∧ a = pa p ∧ j = 15) → mu C' 2 (pa p) 15 r f a j = C' f a j := fun f a j q => mu_ne _ _ (by omega)
    have f02 : ∀ f a j, ¬ (f = 0 ∨ (f = 1 ∧ a = m ∧ j < 3) ∨ f = 23 ∨ f = 28 ∨ f = 29 ∨ f = 31 ∨ f = 32 ∨ f = 33 ∨ (f = 35 ∧ a = sp) ∨ f = 37 ∨ (f = 7 ∧ a = o ∧ j = 2) ∨ (f = 2 ∧ a = pa p ∧ 13 ≤ j)) → mu C' 2 (pa p) 15 r f a j = C f a j := fun f a j q => by rw [f4 f a j (by omega), F3.2.1 f a j (by omega), s4 f a j (by omega), f1 f a j (by omega)]
    have en2 : nul (mu C' 2 (pa p) 15 r) sp = nul C' sp := nulN_cg 40 (fun i _ => f4 35 sp i (by omega))
    have fr' : ∀ (a : Nat), G a = some 0 → wFree (mu C' 2 (pa p) 15 r) sp 0 a → wFree C sp 0 a := fun a ha z => by
      obtain ⟨i, z1, z2, z3, z4⟩ := z
      rw [f4 35 sp i (by omega)] at z3 z4
      obtain ⟨i', y1, y2, y3, y4⟩ := F3.free ha ⟨i, z1, z2, z3, z4⟩
      exact ⟨i', y1, y2, by rw [← f35]; exact y3, by rw [← f35]; exact y4⟩
    -- other ends keep what they have
    have keep : ∀ (a : Nat) (l : List xE), G a = some 0 → a ≠ cr → ¬ wFree C sp 0 a → CWs C a l → CWs (mu C' 2 (pa p) 15 r) a l := fun a l ha hne hnf hc => by
      have c1 : CWs C1 a l := hc.cg (fun j => f1 0 a j (by omega)) (fun j => f1 31 _ j (by omega)) (fun j => f1 32 _ j (by omega))
      have c2 : CWs C2 a l := F2.cw ha hne c1
      have c3 : CWs C' a l := F3.cw ha (fun z => z.elim hne (fun z => hnf (by
        obtain ⟨i, z1, z2, z3, z4⟩ := z
        exact ⟨i, z1, z2, by rw [← f35]; exact z3, by rw [← f35]; exact z4⟩))) c2
      exact c3.cg (fun j => f4 0 a j (by omega)) (fun j => f4 31 _ j (by omega)) (fun j => f4 32 _ j (by omega))
    have e2p : ∀ p', p' < 6 → md p' → p' ≠ p → ∀ j, mu C' 2 (pa p) 15 r 2 (pa p') j = C 2 (pa p') j := fun p' hp' hm' hne j => f02 2 _ j (by
      have := h6 p' p hp' (by omega) hm' (hmd p hp) hne
      omega)
    have ep13 : mu C' 2 (pa p) 15 r 2 (pa p) 13 = (cr : Int) := by rw [f4 2 _ 13 (by omega)]; exact e13'
    refine hQ rr k' G' _ (hE3.pr (pr := pa p) (fun f a j q => f4 f a j (by omega))) F3.1 f02 (by rw [f4 7 o 2 (by omega)]; exact e73) (by rw [en2, ← en]; exact F3.2.2.2.2.2.1) ⟨by rw [ep13, h13'], by rw [f4 2 _ 14 (by omega), F3.2.1 2 _ 14 (by omega), e14]⟩ (fun p1 hp1 hm1 h1 => ?_) (fun p1 hp1 => ?_) ?_
    · by_cases z : p1 = p
      · subst z
        rw [ep13, Int.toNat_natCast]
        refine ⟨⟨F3.1 _ _ gcr, fun y => nfr (fr' cr gcr y)⟩, fun p2 hp2 hm2 hne h2 => ?_⟩
        rw [e2p p2 hp2 hm2 hne] at h2 ⊢
        exact hoth p2 hp2 hm2 hne h2
      · rw [e2p p1 hp1 hm1 z] at h1 ⊢
        obtain ⟨⟨g1, g2⟩, g3⟩ := hEa p1 hp1 hm1 h1
        refine ⟨⟨F3.1 _ _ g1, fun y => g2 (fr' _ g1 y)⟩, fun p2 hp2 hm2 hne h2 => ?_⟩
        by_cases z2 : p2 = p
        · subst z2
          rw [ep13, Int.toNat_natCast]
          exact fun y => hoth p1 hp1 hm1 z h1 y.symm
        · rw [e2p p2 hp2 hm2 z2] at h2 ⊢
          exact g3 p2 hp2 hm2 hne h2
    · by_cases z : p1 = p
      · subst z
        rw [ep13, Int.toNat_natCast, f4 2 _ 14 (by omega), F3.2.1 2 _ 14 (by omega), e14, mu_at]
        refine Or.inr ⟨hss, Int.natCast_nonneg cr, ?_⟩
        rcases hR3 with ⟨x1, l', x2, x3, x4, x5⟩ | ⟨x1, x2⟩
        · exact Or.inl ⟨x1, l', x5 rfl, x2.cg (fun j => f4 0 cr j (by omega)) (fun j => f4 31 _ j (by omega)) (fun j => f4 32 _ j (by omega))⟩
        · exact Or.inr ⟨x1, x2 rfl⟩
      · have hm1 := hmd p1 hp1
        rw [e2p p1 (by omega) hm1 z, e2p p1 (by omega) hm1 z, e2p p1 (by omega) hm1 z]
        rcases hEn p1 hp1 with x | ⟨x1, x2, ⟨x3, l, x4, x5⟩ | x3⟩
        · exact Or.inl x
        · obtain ⟨⟨g1, g2⟩, g3⟩ := hEa p1 (by omega) hm1 x2
          exact Or.inr ⟨x1, x2, Or.inl ⟨x3, l, x4, keep _ l g1 (hoth p1 (by omega) hm1 z x2) g2 x5⟩⟩
        · exact Or.inr ⟨x1, x2, Or.inr x3⟩
    · rcases hR3 with ⟨x1, l', x2, x3, x4, x5⟩ | ⟨x1, x2⟩
      · rcases hrr with ⟨y1, y2⟩ | ⟨y1, y2⟩
        · omega
        · exact Or.inr ⟨y1, l', x5 rfl, x2.cg (fun j => f4 0 cr j (by omega)) (fun j => f4 31 _ j (by omega)) (fun j => f4 32 _ j (by omega))⟩
      · rcases hrr with ⟨y1, y2⟩ | ⟨y1, y2⟩
        · exact Or.inl ⟨y1, x2 rfl⟩
        · omega
  have hr01 : r = 0 ∨ r = 1 := by
    rcases hR3 with ⟨x, -⟩ | ⟨x, -⟩
    · exact Or.inr x
    · exact Or.inl x
  rw [if_pos hr01, if_pos (show g32 r by unfold g32; omega)]
  rcases hr01 with q | q
  · rw [if_pos q]
    exact fin r rfl (Or.inl q) (-1) (Or.inl ⟨rfl, q⟩)
  · rw [if_neg (by omega), e13', if_pos (Int.natCast_nonneg cr), Int.toNat_natCast]
    exact fin r rfl (Or.inr q) _ (Or.inr ⟨rfl, q⟩)
set_option maxHeartbeats 1000000 in
/-- where a program ends, from the start -/
theorem w_endF (hT : TB T b cnt) (hM : mTab T cnt M) (hs : ∀ u : Nat, u < cnt → sE u = 0 ∨ sE u = 1) {p : Nat} {s : Int} {Q : wQ} (hp : p < cnt) (h6 : ∀ p p', p < 6 → p' < 6 → md p → md p' → p ≠ p' → pa p ≠ pa p') (hmd : ∀ p, p < cnt → md p) (hE : WE o m sp sl hm T b sE cnt pa G C) (h7 : C 7 o 2 = 0) (hn : nul C sp + (if C 2 (pa p) 13 < 0 then 1 else 0) ≤ k) (hEa : wEa pa md sp G C) (hEn : wEn T cnt pa C) (hss : vs9 s)
    (hQ : ∀ (r : Int) (k' : Nat) (G' : tG) (C' : mA), WE o m sp sl hm T b sE cnt pa G' C' → (∀ a τ, G a = some τ → G' a = some τ) → wEf o m sp (pa p) C C' → C' 7 o 2 = 0 → nul C sp + (if C 2 (pa p) 13 < 0 then 1 else 0) + k' = nul C' sp + (if C' 2 (pa p) 13 < 0 then 1 else 0) + k → wEa pa md sp G' C' → wEn T cnt pa C' → ((0 ≤ C 2 (pa p) 13 → C' 2 (pa p) 13 = C 2 (pa p) 13) ∧ C' 2 (pa p) 14 = s) → ((r = -1 ∧ sEnd T 40 p (ud s) = none) ∨ (r = (((C' 2 (pa p) 13).toNat : Nat) : Int) ∧ 0 ≤ C' 2 (pa p) 13 ∧ ∃ l, sEnd T 40 p (ud s) = some l ∧ CWs C' (C' 2 (pa p) 13).toNat l)) → Q r C' G' k') : w_Walk_endFrom k G C o (pa p) s Q := by
  have hc6 := hT.1
  have gs : g32 s := hss.g
  have r14 : g32 (C 2 (pa p) 14) := by
    rcases hEn p hp with x | ⟨x, -⟩
    · rw [x]; decide
    · exact x.g
  unfold w_Walk_endFrom
  by_cases z : 0 ≤ C 2 (pa p) 13
  · rw [if_pos z, if_pos r14, if_pos gs]
    have n13 : ¬ C 2 (pa p) 13 < 0 := by omega
    rw [if_neg n13] at hn hQ
    by_cases y : C 2 (pa p) 14 = s
    · rw [if_pos y]
      rcases hEn p hp with x | ⟨x1, x2, x3⟩
      · exfalso
        have := hss.1
        omega
      · rw [y] at x3
        rcases x3 with ⟨x3, l, x4, x5⟩ | ⟨x3, x4⟩
        · rw [x3, if_pos (show g32 (1 : Int) by decide), if_neg (show ¬ (1 : Int) = 0 by decide)]
          exact hQ _ k G C hE (fun _ _ q => q) (fun _ _ _ _ => rfl) h7 (by rw [if_neg n13]) hEa hEn ⟨fun _ => rfl, y⟩ (Or.inr ⟨rfl, z, l, x4, x5⟩)
        · rw [x3, if_pos (show g32 (0 : Int) by decide), if_pos rfl]
          exact hQ _ k G C hE (fun _ _ q => q) (fun _ _ _ _ => rfl) h7 (by rw [if_neg n13]) hEa hEn ⟨fun _ => rfl, y⟩ (Or.inl ⟨rfl, x4⟩)
    · rw [if_neg y]
      refine w_endGo hT hM hs hp h6 hmd hE h7 (by omega) hEa hEn hss z (fun r k' G' C' a1 a2 a3 a4 a5 a6 a7 a8 a9 => hQ r k' G' C' a1 a2 a3 a4 (by rw [a6.1, if_neg n13]; omega) a7 a8 ⟨fun _ => a6.1, a6.2⟩ ?_)
      rw [a6.1]
      rcases a9 with x | ⟨x1, x2⟩
      · exact Or.inl x
      · exact Or.inr ⟨x1, z, x2⟩
  · rw [if_neg z]
    have n13 : C 2 (pa p) 13 < 0 := by omega
    rw [if_pos n13] at hn hQ
    have e14 : C 2 (pa p) 14 = -1 := by
      rcases hEn p hp with x | ⟨-, x, -⟩
      · exact x
      · omega
    obtain ⟨k9, rfl⟩ : ∃ q, k = q + 1 := ⟨k - 1, by omega⟩
    refine ⟨k9, rfl, fun c s' t hf => ?_⟩
    have o2 : ∀ a j, crI C c s' t 2 a j = C 2 a j := fun a j => crI_o ⟨by omega, by omega, by omega⟩
    have ns : ¬ (-1 : Int) = s := by have := hss.1; omega
    rw [o2, e14, if_pos (show g32 (-1) by decide), if_pos gs, if_neg ns]
    obtain ⟨C1, hC1⟩ : ∃ C1, C1 = mu (crI C c s' t) 2 (pa p) 13 ((c : Nat) : Int) := ⟨_, rfl⟩
    rw [← hC1]
    have e13 : C1 2 (pa p) 13 = (c : Int) := by rw [hC1, mu_at]
    have f1 : ∀ f a j, ¬ (f = 2 ∧ a = pa p ∧ j = 13) → C1 f a j = crI C c s' t f a j := fun f a j q => by rw [hC1, mu_ne _ _ (by omega)]
    have w0 : ∀ f a j, ¬ (f = 2 ∧ a = pa p ∧ j = 13) → f ≠ 0 → f ≠ 31 → f ≠ 32 → C1 f a j = C f a j := fun f a j q q0 q1 q2 => by rw [f1 f a j q, crI_o ⟨by omega, by omega, by omega⟩]
    obtain ⟨v1, v2, v3⟩ := cr_vals hf
    obtain ⟨f01, f02, f03, -⟩ := id hf
    have go := crG_go hf
    have ne : ∀ {x y τ}, G x = some τ → G y = none → x ≠ y := fun h1 h2 q => by rw [q, h2] at h1; cases h1
    have hW1 : WI m sp sl hm (crG G c s' t) C1 := (hE.1.crW hf).cg (fun a ha => ⟨f1 0 a 0 (by omega), f1 0 a 1 (by omega), by rw [f1 0 a 2 (by omega)]; exact ((hE.1.crW hf).2.1 a ha).2.2.2.2.1, by rw [f1 0 a 3 (by omega)]; exact ((hE.1.crW hf).2.1 a ha).2.2.2.2.2⟩) (fun j _ => f1 1 m j (by omega)) (fun j => f1 33 sl j (by omega)) (fun i _ => f1 35 sp i (by omega))
    have hE1 : WE o m sp sl hm T b sE cnt pa (crG G c s' t) C1 := ⟨hW1, ⟨by rw [w0 7 o 0 (by omega) (by omega) (by omega) (by omega)]; exact hE.2.1.1, by rw [w0 7 o 1 (by omega) (by omega) (by omega) (by omega)]; exact hE.2.1.2⟩, hE.2.2.1.fr (fun f a j q => w0 f a j (by omega) (by omega) (by omega) (by omega)), hE.2.2.2.1.fr (fun f a j q => w0 f a j (by omega) (by omega) (by omega) (by omega)), hE.2.2.2.2.fr (fun f a j q => w0 f a j (by omega) (by omega) (by omega) (by omega)) (fun a j => w0 28 a j (by omega) (by omega) (by omega) (by omega)) (fun a j => w0 29 a j (by omega) (by omega) (by omega) (by omega))⟩
    have f35 : ∀ i, C1 35 sp i = C 35 sp i := fun i => w0 35 sp i (by omega) (by omega) (by omega) (by omega)
    have en : nul C1 sp = nul C sp := nulN_cg 40 (fun i _ => f35 i)
    have fr1 : ∀ a, wFree C1 sp 0 a → wFree C sp 0 a := fun a z => by
      obtain ⟨i, z1, z2, z3, z4⟩ := z
      exact ⟨i, z1, z2, by rw [← f35]; exact z3, by rw [← f35]; exact z4⟩
    have nfc : ¬ wFree C1 sp 0 c := fun y => by
      obtain ⟨i, y1, y2, y3, y4⟩ := fr1 c y
      obtain ⟨d1, -⟩ := hE.1.2.2.2 i y2 y3
      rw [y4] at d1
      exact ne d1 f01 rfl
    have e2p : ∀ p', p' < 6 → md p' → p' ≠ p → ∀ j, C1 2 (pa p') j = C 2 (pa p') j := fun p' hp' hm' hne j => w0 2 _ j (by
      have := h6 p' p hp' (by omega) hm' (hmd p hp) hne
      omega) (by omega) (by omega) (by omega)
    have hEa1 : wEa pa md sp (crG G c s' t) C1 := fun p1 hp1 hm1 h1 => by
      by_cases x : p1 = p
      · subst x
        rw [e13, Int.toNat_natCast]
        refine ⟨⟨v1, nfc⟩, fun p2 hp2 hm2 hne h2 => ?_⟩
        rw [e2p p2 hp2 hm2 hne] at h2 ⊢
        exact ne (hEa p2 hp2 hm2 h2).1.1 f01
      · rw [e2p p1 hp1 hm1 x] at h1 ⊢
        obtain ⟨⟨g1, g2⟩, g3⟩ := hEa p1 hp1 hm1 h1
        refine ⟨⟨go _ _ g1, fun y => g2 (fr1 _ y)⟩, fun p2 hp2 hm2 hne h2 => ?_⟩
        by_cases x2 : p2 = p
        · subst x2
          rw [e13, Int.toNat_natCast]
          exact fun y => ne g1 f01 y.symm
        · rw [e2p p2 hp2 hm2 x2] at h2 ⊢
          exact g3 p2 hp2 hm2 hne h2
    have hEn1 : wEn T cnt pa C1 := fun p1 hp1 => by
      by_cases x : p1 = p
      · subst x
        refine Or.inl ?_
        rw [w0 2 _ 14 (by omega) (by omega) (by omega) (by omega)]
        exact e14
      · have hm1 := hmd p1 hp1
        rw [e2p p1 (by omega) hm1 x, e2p p1 (by omega) hm1 x, e2p p1 (by omega) hm1 x]
        rcases hEn p1 hp1 with x | ⟨x1, x2, ⟨x3, l, x4, x5⟩ | x3⟩
        · exact Or.inl x
        · obtain ⟨⟨g1, g2⟩, g3⟩ := hEa p1 (by omega) hm1 x2
          obtain ⟨⟨b1, b2⟩, -⟩ := hE.1.2.1 _ g1
          have n0 := ne g1 f01
          have n1 := ne b1 f02
          have n2 := ne b2 f03
          exact Or.inr ⟨x1, x2, Or.inl ⟨x3, l, x4, x5.cg (fun j => by rw [f1 0 _ j (by omega), crI_o ⟨by omega, by omega, by omega⟩]) (fun j => by rw [f1 31 _ j (by omega), crI_o ⟨by omega, by omega, by omega⟩]) (fun j => by rw [f1 32 _ j (by omega), crI_o ⟨by omega, by omega, by omega⟩])⟩⟩
        · exact Or.inr ⟨x1, x2, Or.inr x3⟩
    rw [e13, if_pos (Int.natCast_nonneg c)]
    have key := w_endGo (C := C1) (G := crG G c s' t) (k := k9) (Q := Q) hT hM hs hp h6 hmd hE1 (by rw [w0 7 o 2 (by omega) (by omega) (by omega) (by omega)]; exact h7) (by rw [en]; omega) hEa1 hEn1 hss (by rw [e13]; exact Int.natCast_nonneg c) (fun r k' G' C' a1 a2 a3 a4 a5 a6 a7 a8 a9 => hQ r k' G' C' a1 (fun a τ q => a2 a τ (go a τ q)) (fun f a j q => by rw [a3 f a j q, w0 f a j (by omega) (by omega) (by omega) (by omega)]) a4 (by rw [a6.1, e13, if_neg (by omega)]; omega) a7 a8 ⟨fun y => absurd y z, a6.2⟩ (by
      rw [a6.1]
      rcases a9 with x | ⟨x1, x2⟩
      · exact Or.inl x
      · exact Or.inr ⟨x1, by rw [e13]; exact Int.natCast_nonneg c, x2⟩))
    rw [e13] at key
    exact key
end WEND
