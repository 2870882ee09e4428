/-! the class's walk: IF (own work) -/
def wBS (o m sp sl hm : Nat) (T : xT) (b sE : Int → Int) (cnt : Nat) (pa : Nat → Nat) (wst : Nat → tG → mA → Nat → Nat → Int → Nat → Int → Int → wQ → Prop) (n : Nat) : Prop :=
  ∀ (p a e cr L k : Nat) (lv kept d B : Int) (G : tG) (C : mA) (l : List xE) (Q : wQ), p < cnt → tl (T p).2 lv 16 a e → e ≤ (T p).1 → 0 ≤ lv → dep p lv < n → g32 kept → wPr o m sp sl hm T b sE cnt pa cr L k G C B l → L + dep p lv < 40 → 0 ≤ d → d + dep p lv ≤ 40 → B + tsm (gv (Fb (T p).2 b) 16) (T p).2 16 a e ≤ 50 → (∀ (r : Int) (k' : Nat) (G' : tG) (C' : mA), wPo o m sp sl hm T b sE cnt pa cr L k G C (B + tsm (gv (Fb (T p).2 b) 16) (T p).2 16 a e) kept (tot l) (sBk (sSt T 40 p) (T p).2 17 a e l) r k' G' C' → Q r C' G' k') → w_Walk_walkBlock wst k G C o (pa p) a e cr kept d Q
theorem wFree.mono {C : mA} {sp L L' a : Nat} (h : wFree C sp L' a) (hL : L ≤ L') : wFree C sp L a := by
  obtain ⟨i, i1, i2⟩ := h
  exact ⟨i, by omega, i2⟩
theorem inG.zero {m cr st wt sl hm sp : Nat} {C C' : mA} (h : inG m cr st wt sl hm sp C C') : ∀ a j, C' 0 a j = C 0 a j := fun a j => by
  by_cases k : a = cr
  · rw [k]; exact h.2.1 j
  · exact h.1 0 a j (by omega)
theorem inG.sw {m cr cr' st wt sl hm sp : Nat} {C C' : mA} (h : inG m cr st wt sl hm sp C C') : inG m cr' st wt sl hm sp C C' := ⟨fun f a j q => by
  by_cases k : f = 0
  · rw [k]; exact h.zero a j
  · exact h.1 f a j (by omega), fun j => h.zero cr' j, h.2.2⟩
section WIF
variable {o m sp sl hm : Nat} {T : xT} {b sE : Int → Int} {cnt : Nat} {pa : Nat → Nat} {G G' : tG} {C C' M : mA} {S : Nat → Prop} {L k k' cr : Nat} {wst : Nat → tG → mA → Nat → Nat → Int → Nat → Int → Int → wQ → Prop}
theorem WFr.nul (h : WFr o m sp S L k G C k' G' C') (hk : nul C sp ≤ k) : nul C' sp ≤ k' := by
  have := h.2.2.2.2.2.1
  omega
/-- what was lent is given back -/
theorem w_give (h : WE o m sp sl hm T b sE cnt pa G C) {L : Nat} (hL : C 7 o 2 = ((L + 1 : Nat) : Int)) (h4 : L < 41) : ∃ C', f_Walk_giveBack C o = some (0, C') ∧ WE o m sp sl hm T b sE cnt pa G C' ∧ WFr o m sp (fun _ => False) L k G C k G C' ∧ C' 7 o 2 = (L : Int) ∧ ∀ f a j, f ≠ 7 → C' f a j = C f a j := by
  have f0 : ∀ f a j, ¬ (f = 7 ∧ a = o ∧ j = 2) → mu C 7 o 2 (L : Int) f a j = C f a j := fun f a j q => mu_ne _ _ (by omega)
  obtain ⟨s1, s2⟩ := h.soft (C' := mu C 7 o 2 (L : Int)) (S := fun _ => False) (L := L) (k := k) (fun _ q => q.elim) (fun f a j q => f0 f a j (by omega)) (fun _ q => q.elim) (fun x hx => by rw [f0 33 sl x (by omega)]; exact h.1.1.1.2.2.2.2.2 x hx)
  refine ⟨mu C 7 o 2 (L : Int), ?_, s1, s2, mu_at _ _ _ _ _, fun f a j q => f0 f a j (by omega)⟩
  unfold f_Walk_giveBack
  have e : max (0 : Int) (((L + 1 : Nat) : Int) - 1) = (L : Int) := by omega
  rw [hL, if_pos (show g32 (((L + 1 : Nat) : Int) - 1) by unfold g32; omega), e]
/-- the mixer is cleared -/
theorem w_clear (h : WE o m sp sl hm T b sE cnt pa G C) : ∃ C', f_Mixer_clear C m = some (0, C') ∧ WE o m sp sl hm T b sE cnt pa G C' ∧ WFr o m sp (fun _ => False) L k G C k G C' ∧ C' 7 o 2 = C 7 o 2 ∧ mxF m (C 1 m 0).toNat (C 1 m 1).toNat sl hm C C' ∧ MX C' m (C 1 m 0).toNat (C 1 m 1).toNat sl hm [] := by
  obtain ⟨C', a1, a2, a3⟩ := c_clear h.1.1.1
  obtain ⟨s1, s2⟩ := h.soft (C' := C') (S := fun _ => False) (L := L) (k := k) (fun _ q => q.elim) (fun f a j q => a2 f a j (by omega)) (fun _ q => q.elim) (fun x hx => a3.x0.2.2.2.2.2 x hx)
  exact ⟨C', a1, s1, s2, a2 7 o 2 (by omega), a2, a3⟩
/-- the two crowds come together -/
theorem w_ifEnd {r : Nat} {kept : Int} {l1 l2 : List xE} {Q : Int → mA → Prop} (hE : WE o m sp sl hm T b sE cnt pa G C) (gcr : G cr = some 0) (gr : G r = some 0) (hrc : cr ≠ r) (hc : CWs C cr l1) (hr : CWs C r l2) (hk : g32 kept)
    (hfin : ∀ (Mk : Int) (C' : mA) (rr : Int), (rr = 0 ∨ rr = 1) → (kept = -1 → Mk = 16777215) → oRes m cr (C 1 m 0).toNat (C 1 m 1).toNat sl hm (C 0 cr 0).toNat (C 0 cr 1).toNat 0 C (rmp (rho Mk) (l1 ++ l2)) rr C' → Q rr C') :
    (∃ q53, f_Mixer_clear C ((C 7 o 0).toNat) = some q53 ∧ (∃ q57, f_CS_maskOf q53.2 kept = some q57 ∧ (∃ q59, f_Mixer_putAll q57.2 ((q53.2 7 o 0).toNat) cr q57.1 = some q59 ∧ (if g32 q59.1 then (if q59.1 = 0 then (Q 0 q59.2) else (∃ q64, f_CS_maskOf q59.2 kept = some q64 ∧ (∃ q66, f_Mixer_putAll q64.2 ((q59.2 7 o 0).toNat) r q64.1 = some q66 ∧ (if g32 q66.1 then (if q66.1 = 0 then (Q 0 q66.2) else (if g32 (q66.2 0 cr 3) then (if g32 (q66.2 0 r 3) then (∃ q74, f_Mixer_pourInto (mu q66.2 0 cr 3 (max (q66.2 0 cr 3) (q66.2 0 r 3))) ((q66.2 7 o 0).toNat) cr = some q74 ∧ (Q 1 q74.2)) else False) else False)) else False)))) else False)))) := by
  obtain ⟨C9, v1, -, -, -, v5, v6⟩ := w_clear (L := 0) (k := 0) hE
  obtain ⟨-, y1, y2, y3, y4⟩ := hE.1.2.1 cr gcr
  obtain ⟨-, z1, z2, z3, z4⟩ := hE.1.2.1 r gr
  have in9 : inG m cr (C 1 m 0).toNat (C 1 m 1).toNat sl hm 0 C C9 := inG.mx v5
  obtain ⟨Mk, u1, u2, u3⟩ := c_keep (A := C9) hk
  have hc9 : CW C9 cr (C 0 cr 0).toNat (C 0 cr 1).toNat l1 := hcr in9 hc y1 y2 y3
  obtain ⟨q1, C10, p1, p2, p3⟩ := c_putAll (cr := cr) (sp := 0) v6 hc9 y1 y2 y3 u2
  have h70' : ∀ D : mA, inG m cr (C 1 m 0).toNat (C 1 m 1).toNat sl hm 0 C D → (D 7 o 0).toNat = m := fun D hD => by
    have e : D 7 o 0 = C 7 o 0 := hD.1 7 o 0 (by clear y1 y2 y3 z1 z2 z3; omega)
    rw [e]; exact hE.2.1.1
  have in10 := in9.trans p2
  refine ⟨(0, C9), by rw [hE.2.1.1]; exact v1, (Mk, C9), u1, (q1, C10), by show f_Mixer_putAll C9 (C9 7 o 0).toNat cr Mk = _; rw [h70' C9 in9]; exact p1, ?_⟩
  rcases p3 with ⟨rfl, p3⟩ | ⟨rfl, p3, p4⟩
  · rw [if_pos (show g32 (1 : Int) by decide), if_neg (show ¬ (1 : Int) = 0 by decide)]
    have hc10 : CW C10 r (C 0 r 0).toNat (C 0 r 1).toNat l2 := hcr (in10.sw (cr' := r)) hr z1 z2 z3
    obtain ⟨M1, m1, m2⟩ := c_mask4v (C := C9) (C' := C10) hk
    have eM : M1 = Mk := by
      rw [u1] at m1
      exact (Prod.mk.inj (Option.some.inj m1)).1.symm
    subst eM
    obtain ⟨q2, C11, p1', p2', p3'⟩ := c_putAll (cr := r) (sp := 0) p3 hc10 z1 z2 z3 u2
    have in11 := in10.trans (p2'.sw (cr' := cr))
    refine ⟨(M1, C10), m2, (q2, C11), by show f_Mixer_putAll C10 (C10 7 o 0).toNat _ M1 = _; rw [h70' C10 in10]; exact p1', ?_⟩
    rcases p3' with ⟨rfl, p3'⟩ | ⟨rfl, p3', p4'⟩
    · rw [if_pos (show g32 (1 : Int) by decide), if_neg (show ¬ (1 : Int) = 0 by decide)]
      have e03 : C11 0 cr 3 = C 0 cr 3 := in11.2.1 3
      have e03r : C11 0 r 3 = C 0 r 3 := in11.zero r 3
      show (if g32 (C11 0 cr 3) then (if g32 (C11 0 r 3) then (∃ q74, f_Mixer_pourInto (mu C11 0 cr 3 (max (C11 0 cr 3) (C11 0 r 3))) ((C11 7 o 0).toNat) cr = some q74 ∧ (Q 1 q74.2)) else False) else False)
      rw [e03, e03r, if_pos y4.2, if_pos z4.2]
      obtain ⟨C12, hC12⟩ : ∃ C12, C12 = mu C11 0 cr 3 (max (C 0 cr 3) (C 0 r 3)) := ⟨_, rfl⟩
      have f12 : ∀ f a j, ¬ (f = 0 ∧ a = cr ∧ j = 3) → C12 f a j = C11 f a j := fun f a j q => by
        clear y1 y2 y3 z1 z2 z3
        rw [hC12, mu_ne _ _ (by omega)]
      have g12 : g32 (C12 0 cr 3) := by
        clear y1 y2 y3 z1 z2 z3
        have u4 := y4.2
        have u5 := z4.2
        rw [hC12, mu_at]; unfold g32 at u4 u5 ⊢; omega
      have MX12 := MX.cg (C' := C12) p3' (fun j _ => f12 1 m j (fun q => absurd q.1 (by decide))) (fun j => ⟨f12 31 _ j (fun q => absurd q.1 (by decide)), f12 31 _ j (fun q => absurd q.1 (by decide))⟩) (fun j => f12 32 _ j (fun q => absurd q.1 (by decide))) (fun j => f12 33 _ j (fun q => absurd q.1 (by decide)))
      obtain ⟨C13, b1, b2, b3, b4, b5⟩ := c_pour (cr := cr) (sc := (C 0 cr 0).toNat) (wc := (C 0 cr 1).toNat) MX12 (by rw [f12 0 cr 0 (fun q => absurd q.2.2 (by decide)), in11.2.1 0]) (by rw [f12 0 cr 1 (fun q => absurd q.2.2 (by decide)), in11.2.1 1]) g12 y2
      refine ⟨(0, C13), ?_, ?_⟩
      · rw [h70' C11 in11, ← hC12]
        exact b1
      · refine hfin M1 C13 1 (Or.inr rfl) u3 ⟨fun f a j q => ?_, ⟨b3.g2, b5⟩, Or.inl ⟨rfl, by rw [rmp_app]; exact b3, b4⟩⟩
        clear y1 y2 y3 z1 z2 z3
        rw [b2 f a j (by omega), f12 f a j (by omega)]
        exact in11.1 f a j q
    · rw [if_pos (show g32 (0 : Int) by decide), if_pos rfl]
      exact hfin M1 C11 0 (Or.inl rfl) u3 ⟨in11.1, ⟨by rw [in11.2.1 2]; exact y4.1, by rw [in11.2.1 3]; exact y4.2⟩, Or.inr ⟨rfl, by rw [rmp_app]; exact p3', by rw [in11.2.1 0], by rw [in11.2.1 1], p4'⟩⟩
  · rw [if_pos (show g32 (0 : Int) by decide), if_pos rfl]
    exact hfin Mk C10 0 (Or.inl rfl) u3 ⟨in10.1, ⟨by rw [in10.2.1 2]; exact y4.1, by rw [in10.2.1 3]; exact y4.2⟩, Or.inr ⟨rfl, by rw [rmp_app]; exact col_more p3, by rw [in10.2.1 0], by rw [in10.2.1 1], p4⟩⟩
set_option maxHeartbeats 1000000 in
theorem w_if (hT : TB T b cnt) (hM : mTab T cnt M) {n : Nat} (hBS : wBS o m sp sl hm T b sE cnt pa wst n) {p i : Nat} {kept d B : Int} {l : List xE} {Q : wQ} (hp : p < cnt) (hi : i < (T p).1) (k3 : sK ((T p).2 i) = 3) (hd : dep p (sV ((T p).2 i)) < n + 1) (hk : g32 kept) (hP : wPr o m sp sl hm T b sE cnt pa cr L k G C B l) (hL : L + dep p (sV ((T p).2 i)) < 40) (hd0 : 0 ≤ d) (hd4 : d + dep p (sV ((T p).2 i)) ≤ 40) (h50 : B + gv (Fb (T p).2 b) 16 i ≤ 50)
    (hQ : ∀ (r : Int) (k' : Nat) (G' : tG) (C' : mA), (r = 0 ∨ r = 1) → wPo o m sp sl hm T b sE cnt pa cr L k G C (B + gv (Fb (T p).2 b) 16 i) kept (tot l) (sSt T 40 p i l) r k' G' C' → Q r C' G' k') : w_Walk_walkIf wst k G C o (pa p) i cr kept d Q := by
  have hc6 := hT.1
  obtain ⟨ho, hX, -⟩ := hT.2 p hp
  have h16 := ho.1
  have hvn : ∀ j, j < (T p).1 → 0 ≤ gv (Fb (T p).2 b) 16 j := fun j hj => hT.gv_nn hp 16 j hj
  obtain ⟨⟨hk0, hv, hi1, h3, -⟩, h9⟩ := ho.2.2 i hi
  obtain ⟨o0, o1, o2, t1, t2⟩ := h3 k3
  have ge : gv (Fb (T p).2 b) 16 i = max (tsm (gv (Fb (T p).2 b) 16) (T p).2 16 (i + 1) (i + sO ((T p).2 i))) (tsm (gv (Fb (T p).2 b) 16) (T p).2 16 (i + sO ((T p).2 i)) (i + sI ((T p).2 i))) := by rw [gv_eq (F := Fb (T p).2 b) (Fb_c ho) h16 hi, Fb_3 k3]
  rw [ge] at h50
  have n1 := tsm_nn (v := gv (Fb (T p).2 b) 16) (c := (T p).2) 16 (i + 1) (i + sO ((T p).2 i)) (fun j q1 q2 => hvn j (by omega))
  have n2 := tsm_nn (v := gv (Fb (T p).2 b) 16) (c := (T p).2) 16 (i + sO ((T p).2 i)) (i + sI ((T p).2 i)) (fun j q1 q2 => hvn j (by omega))
  have hdp : dep p (sV ((T p).2 i) + 1) + 1 = dep p (sV ((T p).2 i)) := by unfold dep; omega
  have sp3' := sp3 hT hp hi (l := l) k3
  obtain ⟨f, hf⟩ : ∃ f : xE → Bool, f = (fun q => xv ((T p).2 i) q.1 != 0) := ⟨_, rfl⟩
  obtain ⟨f', hf'⟩ : ∃ f' : xE → Bool, f' = (fun q => !(xv ((T p).2 i) q.1 != 0)) := ⟨_, rfl⟩
  have ts : tot (l.filter f) + tot (l.filter f') = tot l := by rw [hf, hf']; exact tot_split
  rw [← hf, ← hf'] at sp3'
  obtain ⟨hE, gcr, hfree, h7, hn, hc, hB, hl⟩ := hP
  obtain ⟨hW, ⟨h70, h71⟩, hTb, hRu, hCa⟩ := id hE
  have ei : ((i : Int) + 1) = ((i + 1 : Nat) : Int) := by omega
  have ed : ∀ x : Nat, x = 1 → d + (x : Int) = d + 1 := fun x hx => by omega
  unfold w_Walk_walkIf
  refine w_lend9 hW h71 h7 (by omega) hn (fun r C2 G2 k2 hW2 F1 e72 e35 gr hne hn2 ff2 => ?_)
  -- lent
  have hE2 : WE o m sp sl hm T b sE cnt pa G2 C2 := ⟨hW2, ⟨by rw [F1.2.1 7 o 0 (by omega)]; exact h70, by rw [F1.2.1 7 o 1 (by omega)]; exact h71⟩, hTb.fr (fun f a j q => ff2 f a j (by omega) (by omega) (by omega) (by omega) (by omega)), hRu.fr (fun f a j q => ff2 f a j (by omega) (by omega) (by omega) (by omega) (by omega)), hCa.fr (fun f a j q => ff2 f a j (by omega) (by omega) (by omega) (by omega) (by omega)) (fun a j => ff2 28 a j (by omega) (by omega) (by omega) (by omega) (by omega)) (fun a j => ff2 29 a j (by omega) (by omega) (by omega) (by omega) (by omega))⟩
  have hrc : cr ≠ r := hne cr gcr hfree
  have gcr2 : G2 cr = some 0 := F1.1 _ _ gcr
  have hc2 : CWs C2 cr l := F1.cw gcr (fun q => q) hc
  obtain ⟨x1, x2⟩ := hW2.2.2.1 r cr gr gcr2 (fun q => hrc q.symm)
  obtain ⟨-, hT2⟩ := hE2.2.2.1 p hp
  have hS2 := (hT2 i hi).1
  obtain ⟨C3, s1, s2, s3, s4, s5, s6⟩ := c_split (w := o) (P := p) (A := M) (o := r) (by omega) hS2 ((hM p hp).2 i hi) (by omega) (by omega) rfl hc2 rfl rfl (fun q => hrc q.symm) x1 x2
  rw [← hf] at s2
  rw [← hf'] at s3
  have a30 : ∀ a j, j ≠ 2 → j ≠ 3 → C3 0 a j = C2 0 a j := fun a j q1 q2 => s6 0 a j (by omega)
  have hc3 : CWs C3 cr (l.filter f) := CWs.of s2
  have hr3 : CWs C3 r (l.filter f') := CWs.of s3
  obtain ⟨hE3, F2⟩ := hE2.soft (C' := C3) (S := fun a => a = cr ∨ a = r) (L := L) (k := k2) (fun a q => by rcases q with q | q <;> rw [q] <;> assumption) (fun f a j q => s6 f a j (by
    rintro (⟨z1, z2⟩ | ⟨z1, z2⟩ | ⟨z1, z2, z3⟩ | ⟨z1, z2⟩)
    · exact q (Or.inr (Or.inl ⟨z1, Or.inr (Or.inr (z2.elim (fun z2 => ⟨cr, Or.inl rfl, z2⟩) (fun z2 => ⟨r, Or.inr rfl, z2⟩)))⟩))
    · exact q (Or.inr (Or.inr (Or.inl ⟨z1, Or.inr (z2.elim (fun z2 => ⟨cr, Or.inl rfl, z2⟩) (fun z2 => ⟨r, Or.inr rfl, z2⟩))⟩)))
    · exact q (Or.inl ⟨z1, z2, z3⟩)
    · exact q (Or.inr (Or.inr (Or.inr (Or.inr (Or.inr (Or.inl z1))))))))
    (fun a q => by
      rcases q with q | q
      · rw [q]; exact ⟨s2.g2, by rw [s5]; exact (hW2.2.1 cr gcr2).2.2.2.2.2⟩
      · rw [q]; exact ⟨s3.g2, by rw [s4]; decide⟩) (fun x hx => by rw [s6 33 sl x (by omega)]; exact hW2.1.1.2.2.2.2.2 x hx)
  have hS0 : ∀ a, G a = some 0 → (a = cr ∨ a = r) → (a = cr ∨ wFree C sp L a) := fun a ha q => by
    rcases q with q | q
    · exact Or.inl q
    · by_cases z : wFree C sp L a
      · exact Or.inr z
      · exact absurd q (hne a ha z)
  have F12 : WFr o m sp (fun a => a = cr ∨ wFree C sp L a) L k G C k2 G2 C3 := (F1.sub (fun _ _ q => q.elim) (Nat.le_refl L)).trans F2 hS0
  have e73 : C3 7 o 2 = ((L + 1 : Nat) : Int) := by rw [s6 7 o 2 (by omega)]; exact e72
  have e353 : C3 35 sp L = (r : Int) := by rw [s6 35 sp L (by omega)]; exact e35
  have nf1 : ¬ wFree C3 sp (L + 1) cr := fun q => hfree ((F12.free gcr q).mono (Nat.le_succ L))
  have nfr : ¬ wFree C3 sp (L + 1) r := fun q => by
    obtain ⟨z, z1, z2, z3, z4⟩ := q
    obtain ⟨-, u2⟩ := hE3.1.2.2.2 z z2 z3
    have := u2 L (by omega) (by omega) (by rw [e353]; exact Int.natCast_nonneg r)
    rw [e353, z4] at this
    exact this (Int.toNat_natCast r)
  rw [if_pos (Int.natCast_nonneg r)]
  refine ⟨(((sAd C2 (pa p) i : Nat) : Int), C2), c_stepA6 (by omega) (by omega), (0, C3), by simp only [Int.toNat_natCast]; exact s1, ?_⟩
  have hS3 := ((hE3.2.2.1 p hp).2 i hi).1
  have hsa : sAd C3 (pa p) i = sAd C2 (pa p) i := by unfold sAd; rw [s6 2 _ 0 (by omega), s6 25 _ _ (by omega)]
  have e65 : C3 6 (sAd C2 (pa p) i) 5 = ((i + sO ((T p).2 i) : Nat) : Int) := by rw [← hsa]; exact hS3.2.1 k3
  simp only [Int.toNat_natCast]
  rw [e65, ei]
  refine hBS p (i + 1) (i + sO ((T p).2 i)) cr (L + 1) k2 (sV ((T p).2 i) + 1) kept (d + 1) B G2 C3 (l.filter f) _ hp t1 (by omega) (by omega) (by omega) hk ⟨hE3, gcr2, nf1, e73, by rw [show nul C3 sp = nul C2 sp from nulN_cg 40 (fun z _ => s6 35 sp z (by omega))]; exact hn2, hc3, hB, hl.sub f⟩ (by omega) (by omega) (by omega) (by omega) (fun r4 k4 G4 C4 hP4 => ?_)
  obtain ⟨hE4, F3, e74, hR4⟩ := hP4
  have hS3' : ∀ a, G a = some 0 → (a = cr ∨ wFree C3 sp (L + 1) a) → (a = cr ∨ wFree C sp L a) := fun a ha q => by
    rcases q with q | q
    · exact Or.inl q
    · exact Or.inr ((F12.free ha q).mono (Nat.le_succ L))
  have F13 : WFr o m sp (fun a => a = cr ∨ wFree C sp L a) L k G C k4 G4 C4 := F12.trans (F3.sub (fun _ _ q => q) (Nat.le_succ L)) hS3'
  have gcr4 : G4 cr = some 0 := F13.1 _ _ gcr
  have gr4 : G4 r = some 0 := F3.1 _ _ gr
  have hr4 : CWs C4 r (l.filter f') := F3.cw gr (fun q => q.elim (fun q => hrc q.symm) nfr) hr3
  have close : ∀ (k5 : Nat) (G5 : tG) (C5 : mA), WE o m sp sl hm T b sE cnt pa G5 C5 → WFr o m sp (fun a => a = cr ∨ wFree C sp L a) L k G C k5 G5 C5 → C5 7 o 2 = ((L + 1 : Nat) : Int) → (kept = -1 → sSt T 40 p i l = none) → ∃ q26, f_Walk_giveBack C5 o = some q26 ∧ ∃ q29, f_Mixer_clear q26.2 ((q26.2 7 o 0).toNat) = some q29 ∧ Q 0 q29.2 G5 k5 := fun k5 G5 C5 hE5 F5 e75 hnone => by
    obtain ⟨C6, g1, g2, g3, g4, -⟩ := w_give (k := k5) hE5 e75 (by omega)
    obtain ⟨C7, v1, v2, v3, v4, -⟩ := w_clear (L := L) (k := k5) g2
    refine ⟨(0, C6), g1, (0, C7), ?_, hQ 0 k5 G5 C7 (Or.inl rfl) ⟨v2, (F5.trans g3 (fun _ _ q => q.elim)).trans v3 (fun _ _ q => q.elim), by rw [v4]; exact g4, Or.inr ⟨rfl, hnone⟩⟩⟩
    show f_Mixer_clear C6 (C6 7 o 0).toNat = _
    rw [g2.2.1.1]
    exact v1
  rcases hR4 with ⟨rfl, l1, c1, c2, ct1, c3⟩ | ⟨rfl, c3⟩
  · rw [if_pos (show g32 (1 : Int) by decide), if_neg (show ¬ (1 : Int) = 0 by decide)]
    have hS4 := ((hE4.2.2.1 p hp).2 i hi).1
    refine ⟨(((i + sI ((T p).2 i) : Nat) : Int), C4), c_behind9 (by omega) hS4.1.2.2.2.1 hi1 (by omega), ?_⟩
    have hsa4 : sAd C4 (pa p) i = sAd C2 (pa p) i := by rw [← hsa]; unfold sAd; rw [F3.2.1 2 _ 0 (by omega), F3.2.1 25 _ _ (by omega)]
    have e65' : C4 6 (sAd C2 (pa p) i) 5 = ((i + sO ((T p).2 i) : Nat) : Int) := by rw [← hsa4]; exact hS4.2.1 k3
    rw [e65']
    have nf4 : ¬ wFree C4 sp (L + 1) r := fun q => nfr (F3.free gr q)
    have nfc4 : ¬ wFree C4 sp (L + 1) cr := fun q => nf1 (F3.free gcr2 q)
    refine hBS p (i + sO ((T p).2 i)) (i + sI ((T p).2 i)) r (L + 1) k4 (sV ((T p).2 i) + 1) kept (d + 1) B G4 C4 (l.filter f') _ hp t2 (by omega) (by omega) (by omega) hk ⟨hE4, gr4, nf4, e74, F13.nul hn, hr4, hB, hl.sub f'⟩ (by omega) (by omega) (by omega) (by omega) (fun r7 k7 G7 C7 hP7 => ?_)
    obtain ⟨hE7, F4, e77, hR7⟩ := hP7
    have hS7' : ∀ a, G a = some 0 → (a = r ∨ wFree C4 sp (L + 1) a) → (a = cr ∨ wFree C sp L a) := fun a ha q => by
      rcases q with q | q
      · exact hS0 a ha (Or.inr q)
      · exact Or.inr ((F13.free ha q).mono (Nat.le_succ L))
    have F14 : WFr o m sp (fun a => a = cr ∨ wFree C sp L a) L k G C k7 G7 C7 := F13.trans (F4.sub (fun _ _ q => q) (Nat.le_succ L)) hS7'
    have hc7 : CWs C7 cr l1 := F4.cw gcr4 (fun q => q.elim (fun q => hrc q) nfc4) c1
    have gcr7 : G7 cr = some 0 := F14.1 _ _ gcr
    have gr7 : G7 r = some 0 := F4.1 _ _ gr4
    rcases hR7 with ⟨rfl, l2, d1, d2, dt1, d3⟩ | ⟨rfl, d3⟩
    · rw [if_pos (show g32 (1 : Int) by decide), if_neg (show ¬ (1 : Int) = 0 by decide)]
      obtain ⟨C8, g1, g2, g3, g4, g5⟩ := w_give (k := k7) hE7 e77 (by omega)
      have hc8 : CWs C8 cr l1 := hc7.cg (fun j => g5 0 cr j (by decide)) (fun j => g5 31 _ j (by decide)) (fun j => g5 32 _ j (by decide))
      have hr8 : CWs C8 r l2 := d1.cg (fun j => g5 0 r j (by decide)) (fun j => g5 31 _ j (by decide)) (fun j => g5 32 _ j (by decide))
      refine ⟨(0, C8), g1, w_ifEnd (Q := fun rr C' => Q rr C' G7 k7) g2 gcr7 gr7 hrc hc8 hr8 hk (fun Mk C' rr hrr u3 hres => ?_)⟩
      obtain ⟨j1, j2, j3⟩ := g2.op (L := L) (k := k7) gcr7 hres
      refine hQ rr k7 G7 C' hrr ⟨j1, (F14.trans g3 (fun _ _ q => q.elim)).trans j2 (fun _ _ q => Or.inl q), by rw [j3]; exact g4, ?_⟩
      have x3 := c2.mono (B' := B + gv (Fb (T p).2 b) 16 i) (by rw [ge]; exact Int.add_le_add_left (Int.le_max_left _ _) B)
      have x4 := d2.mono (B' := B + gv (Fb (T p).2 b) 16 i) (by rw [ge]; exact Int.add_le_add_left (Int.le_max_right _ _) B)
      have ta : tot (l1 ++ l2) ≤ tot l := by rw [tot_app, ← ts]; exact Int.add_le_add ct1 dt1
      have hres2 := wRs_of (kept := kept) (tt := tot l) (B' := B + gv (Fb (T p).2 b) 16 i) ta (fun q hq => by
        rcases List.mem_append.mp hq with z | z
        · exact x3.2.1 q z
        · exact x4.2.1 q z) (Int.le_trans ta hl.2.2) hres u3
      rcases hres2 with ⟨e1, l9, e2, e3, e4, e5⟩ | ⟨e1, e5⟩
      · refine Or.inl ⟨e1, l9, e2, e3, e4, fun q => ?_⟩
        rw [sp3', c3 q, obind, d3 q, obind]
        exact e5 q
      · refine Or.inr ⟨e1, fun q => ?_⟩
        rw [sp3', c3 q, obind, d3 q, obind]
        exact e5 q
    · rw [if_pos (show g32 (0 : Int) by decide), if_pos rfl]
      refine close k7 G7 C7 hE7 F14 e77 (fun q => ?_)
      rw [sp3', c3 q, obind, d3 q]
      rfl
  · rw [if_pos (show g32 (0 : Int) by decide), if_pos rfl]
    refine close k4 G4 C4 hE4 F13 e74 (fun q => ?_)
    rw [sp3', c3 q]
    rfl
end WIF
