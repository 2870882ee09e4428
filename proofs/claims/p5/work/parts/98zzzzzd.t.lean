/-! the class's walk: what is forgotten; LOOP (own work) -/
theorem cpt_le {l : List xE} {x : xE} : (cpt l x).length ≤ l.length + 1 := by
  induction l with
  | nil => exact Nat.le_refl _
  | cons y l ih =>
    unfold cpt
    split
    · show l.length + 1 ≤ l.length + 1 + 1
      omega
    · show (cpt l x).length + 1 ≤ l.length + 1 + 1
      omega
theorem col_le : ∀ {x l : List xE}, (col l x).length ≤ l.length + x.length
  | [], l => Nat.le_refl _
  | y :: x, l => by
    have h := col_le (x := x) (l := cpt l y)
    have h2 := cpt_le (l := l) (x := y)
    show (col (cpt l y) x).length ≤ l.length + (x.length + 1)
    omega
section WLP
variable {o m sp sl hm : Nat} {T : xT} {b sE : Int → Int} {cnt : Nat} {pa : Nat → Nat} {G G' G1 : tG} {C C' C1 M : mA} {S : Nat → Prop} {L k k' k1 cr : Nat} {wst : Nat → tG → mA → Nat → Nat → Int → Nat → Int → Int → wQ → Prop}
theorem wPo.comp {B' kept tt tt0 r : Int} {s s0 : Option (List xE)} (F1 : WFr o m sp (fun a => a = cr ∨ wFree C sp L a) L k G C k1 G1 C1) (h : wPo o m sp sl hm T b sE cnt pa cr L k1 G1 C1 B' kept tt s r k' G' C') (ht : tt ≤ tt0) (hs : kept = -1 → s = s0) : wPo o m sp sl hm T b sE cnt pa cr L k G C B' kept tt0 s0 r k' G' C' := by
  obtain ⟨h1, h2, h3, h4⟩ := h
  refine ⟨h1, F1.trans h2 (fun a ha q => q.elim Or.inl (fun q => Or.inr (F1.free ha q))), h3, ?_⟩
  rcases h4 with ⟨a1, l', a2, a3, a4, a5⟩ | ⟨a1, a2⟩
  · exact Or.inl ⟨a1, l', a2, a3, Int.le_trans a4 ht, fun q => by rw [← hs q]; exact a5 q⟩
  · exact Or.inr ⟨a1, fun q => by rw [← hs q]; exact a2 q⟩
theorem w_forget {B kept : Int} {l : List xE} (hE : WE o m sp sl hm T b sE cnt pa G C) (gcr : G cr = some 0) (hc : CWs C cr l) (hl : gdL B l) (hk : g32 kept) : ∃ C', f_Walk_forget C o cr kept = some (1, C') ∧ WE o m sp sl hm T b sE cnt pa G C' ∧ WFr o m sp (fun a => a = cr) L k G C k G C' ∧ C' 7 o 2 = C 7 o 2 ∧ wRs C' cr B kept (tot l) (some l) 1 := by
  obtain ⟨C9, v1, -, -, -, v5, v6⟩ := w_clear (L := 0) (k := 0) hE
  obtain ⟨-, y1, y2, y3, y4⟩ := hE.1.2.1 cr gcr
  have in9 : inG m cr (C 1 m 0).toNat (C 1 m 1).toNat sl hm 0 C C9 := inG.mx v5
  obtain ⟨Mk, u1, u2, u3⟩ := c_keep (A := C9) hk
  have hc9 : CW C9 cr (C 0 cr 0).toNat (C 0 cr 1).toNat l := hcr in9 hc y1 y2 y3
  obtain ⟨q1, C10, p1, p2, p3⟩ := c_putAll (cr := cr) (sp := 0) v6 hc9 y1 y2 y3 u2
  have h70' : ∀ D : mA, inG m cr (C 1 m 0).toNat (C 1 m 1).toNat sl hm 0 C D → (D 7 o 0).toNat = m := fun D hD => by
    have e : D 7 o 0 = C 7 o 0 := hD.1 7 o 0 (by clear y1 y2 y3; omega)
    rw [e]; exact hE.2.1.1
  have in10 := in9.trans p2
  have hlen : (col [] ([] ++ l.map (fun q => (rho Mk q.1, q.2)))).length ≤ 300 := by
    have h1 := col_le (x := [] ++ l.map (fun q => (rho Mk q.1, q.2))) (l := [])
    have h2 : l.length ≤ 300 := hc.len
    simp only [List.nil_append, List.length_map, List.length_nil, Nat.zero_add] at h1 ⊢
    omega
  rcases p3 with ⟨rfl, p3⟩ | ⟨rfl, p3, p4⟩
  · obtain ⟨C11, w1, w2⟩ := op_end (cr := cr) (sp := 0) in10 p3 hc y4.2 y2
    obtain ⟨j1, j2, j3⟩ := hE.op (L := L) (k := k) gcr w2
    refine ⟨C11, ?_, j1, j2, j3, ?_⟩
    · unfold f_Walk_forget
      rw [hE.2.1.1, v1, obind]
      show Option.bind (f_CS_maskOf C9 kept) (fun q5 => Option.bind (f_Mixer_putAll q5.2 (C9 7 o 0).toNat cr q5.1) (fun q7 => Option.bind (f_Mixer_pourInto q7.2 (q7.2 7 o 0).toNat cr) (fun q10 => if (q7.1 = 0 ∨ q7.1 = 1) then some (q7.1, q10.2) else none))) = _
      rw [u1, obind, h70' C9 in9]
      show Option.bind (f_Mixer_putAll C9 m cr Mk) (fun q7 => Option.bind (f_Mixer_pourInto q7.2 (q7.2 7 o 0).toNat cr) (fun q10 => if (q7.1 = 0 ∨ q7.1 = 1) then some (q7.1, q10.2) else none)) = _
      rw [p1, obind]
      show Option.bind (f_Mixer_pourInto C10 (C10 7 o 0).toNat cr) (fun q10 => if ((1 : Int) = 0 ∨ (1 : Int) = 1) then some ((1 : Int), q10.2) else none) = _
      rw [h70' C10 in10, w1, obind, if_pos (Or.inr rfl)]
    · have := wRs_of (kept := kept) (tt := tot l) (B' := B) (Int.le_refl _) (fun q hq => hl.2.1 q hq) hl.2.2 w2 u3
      rw [cap_good hl hc.len] at this
      exact this
  · omega
theorem w_loopGo (hT : TB T b cnt) (hs : ∀ u : Nat, u < cnt → sE u = 0 ∨ sE u = 1) {n : Nat} (hBS : wBS o m sp sl hm T b sE cnt pa wst n) {p i nu : Nat} {kept d : Int} (hp : p < cnt) (hi : i < (T p).1) (k4 : sK ((T p).2 i) = 4) (hd : dep p (sV ((T p).2 i)) < n + 1) (hk : g32 kept) (hL : L + dep p (sV ((T p).2 i)) < 40) (hd0 : 0 ≤ d) (hd4 : d + dep p (sV ((T p).2 i)) ≤ 40) (hnu : nu ≤ 9) : ∀ (mm F j k : Nat) (G : tG) (C : mA) (B : Int) (l : List xE) (Q : wQ), nu + 1 = j + mm → mm < F → wPr o m sp sl hm T b sE cnt pa cr L k G C B l → B + mm * tsm (gv (Fb (T p).2 b) 16) (T p).2 16 (i + 1) (i + sI ((T p).2 i)) ≤ 50 → (∀ (r : Int) (k' : Nat) (G' : tG) (C' : mA), (r = 0 ∨ r = 1) → wPo o m sp sl hm T b sE cnt pa cr L k G C (B + mm * tsm (gv (Fb (T p).2 b) 16) (T p).2 16 (i + 1) (i + sI ((T p).2 i))) kept (tot l) (sLp (sBk (sSt T 40 p) (T p).2 17 (i + 1) (i + sI ((T p).2 i))) mm l) r k' G' C' → Q r C' G' k') → w_Walk_walkLoop_16 wst F k G C o (pa p) i cr kept d nu 1 j Q := by
  have hc6 := hT.1
  obtain ⟨ho, hX, -⟩ := hT.2 p hp
  have h16 := ho.1
  have hvn : ∀ j, j < (T p).1 → 0 ≤ gv (Fb (T p).2 b) 16 j := fun j hj => hT.gv_nn hp 16 j hj
  obtain ⟨⟨hk0, hv, hi1, h3, h4, -⟩, h9⟩ := ho.2.2 i hi
  obtain ⟨o0, o1, t1⟩ := h4 k4
  have n1 := tsm_nn (v := gv (Fb (T p).2 b) 16) (c := (T p).2) 16 (i + 1) (i + sI ((T p).2 i)) (fun j q1 q2 => hvn j (by omega))
  obtain ⟨t, ht⟩ : ∃ t : Int, t = tsm (gv (Fb (T p).2 b) 16) (T p).2 16 (i + 1) (i + sI ((T p).2 i)) := ⟨_, rfl⟩
  have hdp : dep p (sV ((T p).2 i) + 1) + 1 = dep p (sV ((T p).2 i)) := by unfold dep; omega
  have ei : ((i : Int) + 1) = ((i + 1 : Nat) : Int) := by omega
  obtain ⟨f, hf⟩ : ∃ f, f = sBk (sSt T 40 p) (T p).2 17 (i + 1) (i + sI ((T p).2 i)) := ⟨_, rfl⟩
  rw [← ht, ← hf]
  intro mm
  induction mm with
  | zero =>
    intro F j k G C B l Q hj hF hP h50 hQ
    obtain ⟨F, rfl⟩ : ∃ q, F = q + 1 := ⟨F - 1, by omega⟩
    obtain ⟨hE, gcr, hfree, h7, hn, hc, hB, hl⟩ := hP
    obtain ⟨C', a1, a2, a3, a4, a5⟩ := w_forget (L := L) (k := k) hE gcr hc hl hk
    have e0 : B + ((0 : Nat) : Int) * t = B := by rw [show ((0 : Nat) : Int) = 0 from rfl, Int.zero_mul, Int.add_zero]
    rw [e0] at hQ
    unfold w_Walk_walkLoop_16
    rw [if_pos (show g32 (j : Int) by unfold g32; omega), if_pos (show g32 (nu : Int) by unfold g32; omega), if_pos (show (nu : Int) < j by omega), if_pos (show g32 (1 : Int) by decide), if_neg (show ¬ (1 : Int) = 0 by decide)]
    refine ⟨(1, C'), a1, ?_⟩
    show (if g32 (1 : Int) then (if (1 : Int) = 0 then Q 0 C' G k else Q 1 C' G k) else False)
    rw [if_pos (show g32 (1 : Int) by decide), if_neg (show ¬ (1 : Int) = 0 by decide)]
    exact hQ 1 k G C' (Or.inr rfl) ⟨a2, a3.sub (fun _ _ q => Or.inl q) (Nat.le_refl L), a4.trans h7, a5⟩
  | succ mm ih =>
    intro F j k G C B l Q hj hF hP h50 hQ
    obtain ⟨F, rfl⟩ : ∃ q, F = q + 1 := ⟨F - 1, by omega⟩
    have e50 : B + ((mm + 1 : Nat) : Int) * t = (B + t) + (mm : Int) * t := by
      rw [show ((mm + 1 : Nat) : Int) = (mm : Int) + 1 by omega, Int.add_mul]
      omega
    rw [e50] at h50 hQ
    rw [← ht] at n1
    have hmt : 0 ≤ (mm : Int) * t := Int.mul_nonneg (by omega) n1
    obtain ⟨hE, gcr, hfree, h7, hn, hc, hB, hl⟩ := id hP
    have hS := ((hE.2.2.1 p hp).2 i hi).1
    have bh : f_Prog_behind C (pa p) i = some (((i + sI ((T p).2 i) : Nat) : Int), C) := c_behind9 (by omega) hS.1.2.2.2.1 hi1 (by omega)
    -- one time more
    have one : ∀ kk : Int, g32 kk → (kept = -1 → kk = -1) → w_Walk_walkBlock wst k G C o (pa p) ((i : Int) + 1) ((i + sI ((T p).2 i) : Nat) : Int) cr kk (d + 1) (fun r19 A20 G21 k22 => w_Walk_walkLoop_16 wst F k22 G21 A20 o (pa p) i cr kept d nu r19 ((j : Int) + 1) Q) := fun kk hkk hkk1 => by
      rw [ei]
      refine hBS p (i + 1) (i + sI ((T p).2 i)) cr L k (sV ((T p).2 i) + 1) kk (d + 1) B G C l _ hp t1 (by omega) (by omega) (by omega) hkk hP (by omega) (by omega) (by omega) (by rw [← ht]; omega) (fun r k' G' C' hP' => ?_)
      rw [← ht, ← hf] at hP'
      have ej : ((j : Int) + 1) = ((j + 1 : Nat) : Int) := by omega
      rw [ej]
      obtain ⟨hE', F', e7', hR'⟩ := hP'
      rcases hR' with ⟨rfl, l', c1, c2, ct, c3⟩ | ⟨rfl, c3⟩
      · refine ih F (j + 1) k' G' C' (B + t) l' Q (by omega) (by omega) ⟨hE', F'.1 _ _ gcr, fun q => hfree (F'.free gcr q), e7', F'.nul hn, c1, by omega, c2⟩ h50 (fun r9 k9 G9 C9 hr9 hP9 => hQ r9 k9 G9 C9 hr9 (hP9.comp F' ct (fun q => ?_)))
        show _ = (f l).bind (sLp f mm)
        rw [c3 (hkk1 q), obind]
      · obtain ⟨F9, rfl⟩ : ∃ q, F = q + 1 := ⟨F - 1, by omega⟩
        have z := hQ 0 k' G' C' (Or.inl rfl) ⟨hE', F', e7', Or.inr ⟨rfl, fun q => by
          show (f l).bind (sLp f mm) = none
          rw [c3 (hkk1 q)]
          rfl⟩⟩
        unfold w_Walk_walkLoop_16
        rw [if_pos (show g32 ((j + 1 : Nat) : Int) by unfold g32; omega), if_pos (show g32 (nu : Int) by unfold g32; omega), if_pos (show g32 (0 : Int) by decide), if_pos rfl]
        by_cases y : (nu : Int) < ((j + 1 : Nat) : Int)
        · rw [if_pos y]; exact z
        · rw [if_neg y]; exact z
    unfold w_Walk_walkLoop_16
    rw [if_pos (show g32 (j : Int) by unfold g32; omega), if_pos (show g32 (nu : Int) by unfold g32; omega), if_neg (show ¬ (nu : Int) < j by omega), if_pos (show g32 (1 : Int) by decide), if_neg (show ¬ (1 : Int) = 0 by decide), if_pos hk]
    by_cases q : kept = -1
    · rw [if_pos q]
      exact ⟨_, bh, one (-1) (by decide) (fun _ => rfl)⟩
    · rw [if_neg q]
      have ej : ((nu : Int) - j) = ((nu - j : Nat) : Int) := by omega
      obtain ⟨v', w1, w2⟩ := w_nft hT hE.2.2.1 hs hp hi k4 (t := nu - j) (v := kept) (by omega) hk
      rw [ej]
      exact ⟨(v', C), w1, _, bh, one v' w2 (fun z => absurd z q)⟩
theorem w_loop (hT : TB T b cnt) (hs : ∀ u : Nat, u < cnt → sE u = 0 ∨ sE u = 1) {n : Nat} (hBS : wBS o m sp sl hm T b sE cnt pa wst n) {p i : Nat} {kept d B : Int} {l : List xE} {Q : wQ} (hp : p < cnt) (hi : i < (T p).1) (k4 : sK ((T p).2 i) = 4) (hd : dep p (sV ((T p).2 i)) < n + 1) (hk : g32 kept) (hP : wPr o m sp sl hm T b sE cnt pa cr L k G C B l) (hL : L + dep p (sV ((T p).2 i)) < 40) (hd0 : 0 ≤ d) (hd4 : d + dep p (sV ((T p).2 i)) ≤ 40) (h50 : B + gv (Fb (T p).2 b) 16 i ≤ 50)
    (hQ : ∀ (r : Int) (k' : Nat) (G' : tG) (C' : mA), (r = 0 ∨ r = 1) → wPo o m sp sl hm T b sE cnt pa cr L k G C (B + gv (Fb (T p).2 b) 16 i) kept (tot l) (sSt T 40 p i l) r k' G' C' → Q r C' G' k') : w_Walk_walkLoop wst k G C o (pa p) i cr kept d Q := by
  have hc6 := hT.1
  obtain ⟨ho, hX, -⟩ := hT.2 p hp
  have h16 := ho.1
  obtain ⟨⟨hk0, hv, hi1, h3, h4, -⟩, h9⟩ := ho.2.2 i hi
  obtain ⟨o0, o1, t1⟩ := h4 k4
  have ge : gv (Fb (T p).2 b) 16 i = sU ((T p).2 i) * tsm (gv (Fb (T p).2 b) 16) (T p).2 16 (i + 1) (i + sI ((T p).2 i)) := by rw [gv_eq (F := Fb (T p).2 b) (Fb_c ho) h16 hi, Fb_4 k4]
  obtain ⟨nu, hnu⟩ : ∃ q : Nat, sU ((T p).2 i) = q := ⟨(sU ((T p).2 i)).toNat, by omega⟩
  rw [ge, hnu] at h50 hQ
  have e4 := sp4 hT hp hi (l := l) k4
  rw [hnu, Int.toNat_natCast] at e4
  rw [e4] at hQ
  have hS := ((hP.1.2.2.1 p hp).2 i hi).1
  unfold w_Walk_walkLoop
  refine ⟨(((sAd C (pa p) i : Nat) : Int), C), c_stepA6 (by omega) (by omega), ?_⟩
  simp only [Int.toNat_natCast]
  rw [hS.1.2.2.1, hnu]
  exact w_loopGo hT hs hBS hp hi k4 hd hk hL hd0 hd4 (by omega) nu 20 1 k G C B l Q (by omega) (by omega) hP h50 hQ
end WLP
