/-! how wide it gets, if the others are forgotten: the class's walk (own work) -/
section YCA
variable {o m sp sl hm : Nat} {T : xT} {b sE : Int → Int} {cnt : Nat} {pa : Nat → Nat} {md : Nat → Prop} {G : tG} {C M : mA} {k : Nat}
set_option maxHeartbeats 1000000 in
theorem w_mostN (hT : TB T b cnt) (hM : mTab T cnt M) (hs : ∀ u : Nat, u < cnt → sE u = 0 ∨ sE u = 1) {p : Nat} {s kept : Int} {Q : wQ} (hp : p < cnt) (hmd : ∀ p, p < cnt → md p) (hE : WE o m sp sl hm T b sE cnt pa G C) (h7 : C 7 o 2 = 0) (hn : nul C sp ≤ k) (hEa : wEa pa md sp G C) (hEn : wEn T cnt pa C) (hss : vs9 s) (hk : g32 kept) (nk : kept ≠ -1)
    (hQ : ∀ (r : Int) (k' : Nat) (G' : tG) (C' : mA), WE o m sp sl hm T b sE cnt pa G' C' → WFr o m sp (fun a => wFree C sp 0 a) 0 k G C k' G' C' → C' 7 o 2 = 0 → wEa pa md sp G' C' → wEn T cnt pa C' → Q r C' G' k') : w_Walk_mostAtOnce k G C o (pa p) s kept Q := by
  have hc6 := hT.1
  obtain ⟨ho, hX, hb, hb0, hb1⟩ := hT.2 p hp
  unfold w_Walk_mostAtOnce
  rw [if_pos hk, if_neg nk]
  clear nk
  refine w_lend9 (L := 0) hE.1 hE.2.1.2 h7 (by decide) hn (fun r C2 G2 k2 hW2 F1 e72 e35 gr hne hn2 ff2 => ?_)
  have hE2 := hE.lent hW2 F1 ff2
  have hN2 := (hE2.2.2.1 p hp).1.1
  obtain ⟨v', w1, w2⟩ := w_nf hT hE2.2.2.1 hs (a := 0) hp ho.2.1 (Nat.le_refl _) hk
  obtain ⟨Mk, m1, m2, -⟩ := c_keep (A := C2) w2
  obtain ⟨v1, v2⟩ := m2 s hss
  have hr := rho_r Mk (ud s)
  obtain ⟨C3, s1, s2, s3, s4⟩ := c_crB (C := C2) (cr := r) (s := iAnd s Mk) rfl rfl v1
  rw [v2] at s2
  obtain ⟨hE3, F2⟩ := hE2.soft (C' := C3) (S := fun a => a = r) (L := 0) (k := k2) (fun a z => by rw [z]; exact gr) (fun f a j z => s4 f a j (by
    rintro (⟨y1, y2⟩ | ⟨y1, y2⟩ | ⟨y1, y2, y3⟩)
    · exact z (Or.inr (Or.inl ⟨y1, Or.inr (Or.inr ⟨r, rfl, y2⟩)⟩))
    · exact z (Or.inr (Or.inr (Or.inl ⟨y1, Or.inr ⟨r, rfl, y2⟩⟩)))
    · exact z (Or.inl ⟨y1, y2, y3⟩)))
    (fun a z => by rw [z]; exact ⟨s2.g2, by rw [s3]; decide⟩) (fun x hx => by rw [s4 33 sl x (by omega)]; exact hW2.1.1.2.2.2.2.2 x hx)
  have e73 : C3 7 o 2 = ((1 : Nat) : Int) := by rw [s4 7 o 2 (by omega)]; exact e72
  have e353 : C3 35 sp 0 = (r : Int) := by rw [s4 35 sp 0 (by omega)]; exact e35
  have nfr : ¬ wFree C3 sp 1 r := fun z => by
    obtain ⟨i, z1, z2, z3, z4⟩ := z
    obtain ⟨-, u2⟩ := hE3.1.2.2.2 i z2 z3
    have := u2 0 (by omega) (by omega) (by rw [e353]; exact Int.natCast_nonneg r)
    rw [e353, z4] at this
    exact this (Int.toNat_natCast r)
  have F12 : WFr o m sp (fun a => wFree C sp 0 a) 0 k G C k2 G2 C3 := (F1.sub (fun _ _ z => z.elim) (Nat.le_refl 0)).trans F2 (fun a ha z => by
    by_cases y : wFree C sp 0 a
    · exact y
    · exact absurd z (hne a ha y))
  rw [if_pos (Int.natCast_nonneg r), hN2]
  refine ⟨(v', C2), w1, (Mk, C2), m1, (0, C3), by simp only [Int.toNat_natCast]; exact s1, ?_⟩
  simp only [Int.toNat_natCast]
  have hN := (hE3.2.2.1 p hp).1.1
  rw [hN]
  have hl : gdL 0 [(rho Mk (ud s), 1125899906842624)] := gd_one hr
  refine w_blk hT hs (w_all hT hM hs 40) p 0 (T p).1 r 1 k2 0 kept 0 0 G2 C3 [(rho Mk (ud s), 1125899906842624)] _ hp ho.2.1 (Nat.le_refl _) (Int.le_refl _) (by unfold dep; omega) hk ⟨hE3, gr, nfr, e73, by rw [show nul C3 sp = nul C2 sp from nulN_cg 40 (fun z _ => s4 35 sp z (by omega))]; exact hn2, CWs.of s2, Int.le_refl _, hl⟩ (by unfold dep; omega) (Int.le_refl _) (by unfold dep; omega) (by rw [← hb]; omega) (fun r4 k4 G4 C4 hP4 => ?_)
  obtain ⟨hE4, F3, e74, hR4⟩ := hP4
  have F13 : WFr o m sp (fun a => wFree C sp 0 a) 0 k G C k4 G4 C4 := F12.trans (F3.sub (fun _ _ z => z) (Nat.zero_le 1)) (fun a ha z => by
    rcases z with z | z
    · by_cases y : wFree C sp 0 a
      · exact y
      · exact absurd z (hne a ha y)
    · exact (F12.free ha z).mono (Nat.zero_le 1))
  obtain ⟨C6, g1, g2, g3, g4, g5⟩ := w_give (L := 0) (k := k4) hE4 e74 (by decide)
  have F := F13.trans g3 (fun _ _ z => z.elim)
  have g4 : C6 7 o 2 = 0 := g4
  have f2 : ∀ a j, C6 2 a j = C 2 a j := fun a j => F.2.1 2 a j (by omega)
  have hEa' : wEa pa md sp G4 C6 := fun p1 hp1 hm1 h1 => by
    rw [f2] at h1 ⊢
    obtain ⟨⟨x1, x2⟩, x3⟩ := hEa p1 hp1 hm1 h1
    refine ⟨⟨F.1 _ _ x1, fun z => x2 (F.free x1 z)⟩, fun p2 hp2 hm2 hne2 h2 => ?_⟩
    rw [f2] at h2 ⊢
    exact x3 p2 hp2 hm2 hne2 h2
  have hEn' : wEn T cnt pa C6 := fun p1 hp1 => by
    rw [f2, f2, f2]
    rcases hEn p1 hp1 with y | ⟨y1, y2, ⟨y3, l, y4, y5⟩ | y3⟩
    · exact Or.inl y
    · obtain ⟨⟨x1, x2⟩, -⟩ := hEa p1 (by omega) (hmd p1 hp1) y2
      exact Or.inr ⟨y1, y2, Or.inl ⟨y3, l, y4, F.cw x1 x2 y5⟩⟩
    · exact Or.inr ⟨y1, y2, Or.inr y3⟩
  have hr01 : r4 = 0 ∨ r4 = 1 := by
    rcases hR4 with ⟨y, -⟩ | ⟨y, -⟩
    · exact Or.inr y
    · exact Or.inl y
  refine ⟨(0, C6), g1, ?_⟩
  rw [if_pos (show g32 r4 by unfold g32; omega)]
  dsimp only
  by_cases y : r4 = 0
  · rw [if_pos y]
    exact hQ _ k4 G4 C6 g2 F g4 hEa' hEn'
  · rw [if_neg y]
    exact hQ _ k4 G4 C6 g2 F g4 hEa' hEn'
end YCA
/-- a call of both that keeps all that odds need, whatever it answers -/
def FS (x : Nat) (G : tG) (C A : mA) (T : xT) (sl hm k : Nat) (F : Option (Int × mA)) (W : wQ → Prop) : Prop := ∃ z A', F = some (z, A') ∧ odF A A' ∧ ∀ Q : wQ, (∀ (y : Int) (k' : Nat) (G' : tG) (C' : mA), R9 x C' A' → WX x G' C' A' T sl hm → (∀ a τ, G a = some τ → G' a = some τ) → oeF x C C' → rmK x C + k' = rmK x C' + k → Q y C' G' k') → W Q
theorem FB.fs {x : Nat} {G : tG} {C A : mA} {T : xT} {sl hm k : Nat} {F : Option (Int × mA)} {W : wQ → Prop} (h : FB x G C A T sl hm k F W) : FS x G C A T sl hm k F W := by
  obtain ⟨z, A', h1, h2, h3⟩ := h
  exact ⟨z, A', h1, h2, fun Q hQ => h3 Q (fun k' G' C' a b c d e => hQ z k' G' C' a b c d e)⟩
section YCB
variable {D : va_G} {Gt G : tG} {C A : mA} {w : jW} {x sl hm k : Nat} {T : xT}
/-- the walk with names kept, from the object -/
theorem WX.walk (hw : hW D Gt C w) (gx : Gt x = some 8) (h : R9 x C A) (hx : WX x G C A T sl hm) {A' : mA} (hA : odF A A') (hMc : mCa T (mCn A) A') {k' : Nat} {G' : tG} {C' : mA} (c1 : WE (wO C x) (wMx C x) (wSp C x) sl hm T (bA A) (wSe x C) (mCn A) (aPr C x) G' C') (F : WFr (wO C x) (wMx C x) (wSp C x) (fun a => wFree C (wSp C x) 0 a) 0 k G C k' G' C') (c4 : C' 7 (wO C x) 2 = 0) (c6 : wEa (aPr C x) (wMd x C) (wSp C x) G' C') (c7 : wEn T (mCn A) (aPr C x) C') : R9 x C' A' ∧ WX x G' C' A' T sl hm ∧ (∀ a τ, G a = some τ → G' a = some τ) ∧ oeF x C C' ∧ rmK x C + k' = rmK x C' + k := by
  have hf : oeF x C C' := fun f a j q => F.2.1 f a j (by omega)
  have f2 : ∀ a j, C' 2 a j = C 2 a j := fun a j => F.2.1 2 a j (by omega)
  obtain ⟨q1, q2, q3, q4, q5, q6⟩ := oe_pa hf
  obtain ⟨hpg, ⟨hW, h7, h11⟩, hR, hCa, ⟨hEa, hEn⟩, -⟩ := id hx
  have e5 : mCn A' = mCn A := by unfold mCn; rw [hA 0 0 0 (by omega)]
  have hfs : ∀ f a j, (f = 2 ∧ j < 13) ∨ f = 4 → C' f a j = C f a j := fun f a j z => hf f a j (by omega)
  have hwmd : ∀ q, wMd x C' q ↔ wMd x C q := fun q => by unfold wMd; rw [q4, q6]
  refine ⟨R9.oe hw gx h hf hA, ⟨WX.pg h hpg hf hA, ⟨by rw [q2, q3]; exact c1.1, by rw [q1]; exact c4, by rw [hf 8 x 11 (by clear h11; omega), hf 8 x 12 (by clear h11; omega)]; exact h11⟩, fun u u' hu hu' n m1 m2 => ?_, by rw [e5, q5]; exact c1.2.2.2.2, ⟨?_, by rw [e5, q5]; exact c7⟩, by rw [e5]; exact hMc⟩, F.1, hf, ?_⟩
  · rw [q5, (wSd.fr hfs _).1, (wSd.fr hfs _).1, (wSd.fr hfs _).2, (wSd.fr hfs _).2]
    exact hR u u' hu hu' n ((hwmd u).mp m1) ((hwmd u').mp m2)
  · rw [q5, q3]
    intro u hu m1 h1
    obtain ⟨v1, v2⟩ := c6 u hu ((hwmd u).mp m1) h1
    exact ⟨v1, fun u' hu' m2 hn h2 => v2 u' hu' ((hwmd u').mp m2) hn h2⟩
  · have e9 : nul C (wSp C x) + k' = nul C' (wSp C x) + k := F.2.2.2.2.2.1
    unfold rmK
    rw [q3, q4, q5]
    have e8 : nulN (fun p => if 0 ≤ C' 21 (aOa C x) p then C' 2 (aPr C x p) 13 else 0) 6 = nulN (fun p => if 0 ≤ C 21 (aOa C x) p then C 2 (aPr C x p) 13 else 0) 6 := nulN_cg 6 (fun i _ => by
      show (if 0 ≤ C' 21 (aOa C x) i then C' 2 (aPr C x i) 13 else 0) = _
      rw [q6, f2])
    rw [e8]
    omega
end YCB
