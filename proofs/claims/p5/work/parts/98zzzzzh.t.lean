/-! the class's walk: all steps, blocks (own work) -/
section WALL
variable {o m sp sl hm : Nat} {T : xT} {b sE : Int → Int} {cnt : Nat} {pa : Nat → Nat} {G : tG} {C M : mA} {L k cr : Nat} {wst : Nat → tG → mA → Nat → Nat → Int → Nat → Int → Int → wQ → Prop}
def wSS (o m sp sl hm : Nat) (T : xT) (b sE : Int → Int) (cnt : Nat) (pa : Nat → Nat) (wst : Nat → tG → mA → Nat → Nat → Int → Nat → Int → Int → wQ → Prop) (n : Nat) : Prop :=
  ∀ (p i cr L k : Nat) (kept d B : Int) (G : tG) (C : mA) (l : List xE) (Q : wQ), p < cnt → i < (T p).1 → dep p (sV ((T p).2 i)) < n → g32 kept → wPr o m sp sl hm T b sE cnt pa cr L k G C B l → L + dep p (sV ((T p).2 i)) < 40 → 0 ≤ d → d + dep p (sV ((T p).2 i)) ≤ 40 → B + gv (Fb (T p).2 b) 16 i ≤ 50 → (∀ (r : Int) (k' : Nat) (G' : tG) (C' : mA), (r = 0 ∨ r = 1) → wPo o m sp sl hm T b sE cnt pa cr L k G C (B + gv (Fb (T p).2 b) 16 i) kept (tot l) (sSt T 40 p i l) r k' G' C' → Q r C' G' k') → wst k G C o (pa p) i cr kept d Q
theorem w_opStep {sk : Nat} {Mk B B' kept r : Int} {l Y : List xE} {Q : wQ} {s : Option (List xE)} {C' : mA} (hP : wPr o m sp sl hm T b sE cnt pa cr L k G C B l) (hY : ∀ q ∈ Y, (0 ≤ q.1 ∧ q.1 ≤ 999999) ∧ 0 < q.2 ∧ dv B' ∣ q.2) (ht : tot Y ≤ tot l) (hr : oRes m cr (C 1 m 0).toNat (C 1 m 1).toNat sl hm (C 0 cr 0).toNat (C 0 cr 1).toNat sk C (rmp (rho Mk) Y) r C') (hk : kept = -1 → Mk = 16777215) (hs : s = cap9 Y)
    (hQ : ∀ (r : Int) (k' : Nat) (G' : tG) (C' : mA), (r = 0 ∨ r = 1) → wPo o m sp sl hm T b sE cnt pa cr L k G C B' kept (tot l) s r k' G' C' → Q r C' G' k') : (if (r = 0 ∨ r = 1) then Q r C' G k else False) := by
  obtain ⟨hE, gcr, hfree, h7, hn, hc, hB, hl⟩ := hP
  obtain ⟨j1, j2, j3⟩ := hE.op (L := L) (k := k) gcr hr
  have hw := wRs_of (kept := kept) ht hY (Int.le_trans ht hl.2.2) hr hk
  rw [← hs] at hw
  have hr01 : r = 0 ∨ r = 1 := by
    rcases hw with ⟨x, -⟩ | ⟨x, -⟩
    · exact Or.inr x
    · exact Or.inl x
  rw [if_pos hr01]
  exact hQ r k G C' hr01 ⟨j1, j2.sub (fun _ _ q => Or.inl q) (Nat.le_refl L), j3.trans h7, hw⟩
set_option maxHeartbeats 1000000 in
theorem w_stp (hT : TB T b cnt) (hM : mTab T cnt M) (hs : ∀ u : Nat, u < cnt → sE u = 0 ∨ sE u = 1) {n : Nat} (hBS : wBS o m sp sl hm T b sE cnt pa wst n) : wSS o m sp sl hm T b sE cnt pa (w_Walk_walkStep wst) (n + 1) := by
  intro p i cr L k kept d B G C l Q hp hi hd hk hP hL hd0 hd4 h50 hQ
  have hc6 := hT.1
  obtain ⟨ho, hX, -⟩ := hT.2 p hp
  have h16 := ho.1
  obtain ⟨⟨hk0, hv, hi1, h3, h4, h5, h0, -⟩, h9⟩ := ho.2.2 i hi
  have hn9 := (hX i hi).1
  obtain ⟨hE, gcr, hfree, h7, hn, hc, hB, hl⟩ := id hP
  have hS := ((hE.2.2.1 p hp).2 i hi)
  have ekd : C 6 (sAd C (pa p) i) 0 = sK ((T p).2 i) := hS.1.1.1
  obtain ⟨-, y1, y2, y3, y4⟩ := hE.1.2.1 cr gcr
  obtain ⟨Mk, m1, m2, m3⟩ := c_keep (A := C) hk
  have ge := gv_eq (F := Fb (T p).2 b) (Fb_c ho) h16 hi
  unfold w_Walk_walkStep
  refine ⟨(((sAd C (pa p) i : Nat) : Int), C), c_stepA6 (by omega) (by omega), ?_⟩
  simp only [Int.toNat_natCast]
  rw [ekd, if_pos (show g32 (sK ((T p).2 i)) by clear y1 y2 y3; unfold g32; omega)]
  by_cases c0 : sK ((T p).2 i) = 0
  · rw [if_pos c0]
    obtain ⟨⟨z1, z2⟩, z3⟩ := h0 c0
    have g0 : gv (Fb (T p).2 b) 16 i = kBt (kSumW (sL ((T p).2 i))) := by rw [ge, Fb_0 c0]
    rw [g0] at h50 hQ
    obtain ⟨x1, x2, x3⟩ := gd_draw hl z1 z3 h50
    obtain ⟨r, C', a1, a2⟩ := c_wDraw (w := o) (m := m) (cr := cr) (C0 := C) (pr := pa p) (i := i) (e := (T p).2 i) (L := l) (sp := 0) hS.1 c0 (by have := hn9 (Or.inl c0); clear y1 y2 y3; omega) z3 z2 z1 (by rw [hS.2.1, g0]) (fun q hq => ⟨x1 q hq, hl.nn q hq, hl.le q hq⟩) hE.2.1.1 hE.1.1.1 hc y4.2 y1 y2 y3 m2
    refine ⟨(Mk, C), m1, (r, C'), a1, ?_⟩
    refine w_opStep (Y := l.flatMap (xDraw ((T p).2 i))) hP (fun q hq => ?_) x3 a2 m3 (sp0 c0) hQ
    obtain ⟨w1, w2, w3⟩ := x2 q hq
    refine ⟨w1, ?_, w3⟩
    obtain ⟨y, hy, hq⟩ := List.mem_flatMap.mp hq
    obtain ⟨z, hz, rfl⟩ := List.mem_map.mp hq
    obtain ⟨kk, -, kS', -⟩ := kBt_S z1
    have hSp : 0 < kSumW (sL ((T p).2 i)) := by rw [kS']; exact Int.pow_pos (by decide)
    have lz := z3.2.2 z hz
    obtain ⟨cc, hcc⟩ := x1 y hy
    have hy0 := (hl.2.1 y hy).2.1
    show 0 < y.2 / kSumW (sL ((T p).2 i)) * z.2
    have hcp : 0 < cc := by
      rcases Int.lt_or_le 0 cc with q | q
      · exact q
      · have := Int.mul_nonpos_of_nonneg_of_nonpos (Int.le_of_lt hSp) q
        clear y1 y2 y3
        omega
    rw [hcc, Int.mul_ediv_cancel_left _ (Int.ne_of_gt hSp)]
    exact Int.mul_pos hcp (Int.lt_of_lt_of_le (by decide) lz.2.1)
  rw [if_neg c0]
  by_cases c1 : sK ((T p).2 i) = 1
  · rw [if_pos c1]
    have g0 : gv (Fb (T p).2 b) 16 i = 0 := by rw [ge, Fb_o c0 (by clear y1 y2 y3; omega) (by clear y1 y2 y3; omega) (by clear y1 y2 y3; omega)]
    rw [g0, Int.add_zero] at hQ
    obtain ⟨r, C', a1, a2⟩ := c_wLet (w := o) (m := m) (cr := cr) (C0 := C) (A := M) (P := p) (pr := pa p) (i := i) (e := (T p).2 i) (L := l) (sp := (C 2 (pa p) 7).toNat) (by clear y1 y2 y3; omega) hS.1 ((hM p hp).2 i hi) c1 (by have := hn9 (Or.inr (Or.inl c1)); clear y1 y2 y3; omega) hE.2.1.1 rfl hE.1.1.1 hc y4.2 y1 y2 y3 m2
    refine ⟨(Mk, C), m1, (r, C'), a1, ?_⟩
    have et : tot (l.map (xLet ((T p).2 i))) = tot l := by
      clear hP hl hc hQ a1 a2
      induction l with
      | nil => rfl
      | cons q l ihl =>
        rw [List.map_cons]
        simp only [tot]
        rw [ihl]
        rfl
    have e9 : l.map (fun q => (rho Mk (xLet ((T p).2 i) q).1, (xLet ((T p).2 i) q).2)) = rmp (rho Mk) (l.map (xLet ((T p).2 i))) := by
      unfold rmp
      rw [List.map_map]
      rfl
    rw [e9] at a2
    refine w_opStep (Y := l.map (xLet ((T p).2 i))) hP (fun q hq => ?_) (Int.le_of_eq et) a2 m3 (sp1 c1) hQ
    obtain ⟨y, hy, rfl⟩ := List.mem_map.mp hq
    exact ⟨wth_r (hl.2.1 y hy).1 (by clear y1 y2 y3; omega), (hl.2.1 y hy).2⟩
  rw [if_neg c1]
  by_cases c2 : sK ((T p).2 i) = 2
  · rw [if_pos c2]
    have g0 : gv (Fb (T p).2 b) 16 i = 0 := by rw [ge, Fb_o c0 (by clear y1 y2 y3; omega) (by clear y1 y2 y3; omega) (by clear y1 y2 y3; omega)]
    rw [g0, Int.add_zero] at hQ
    obtain ⟨r, C', a1, a2⟩ := c_wSee (w := o) (m := m) (cr := cr) (C0 := C) (A := M) (P := p) (pr := pa p) (i := i) (e := (T p).2 i) (L := l) (sp := (C 2 (pa p) 7).toNat) (by clear y1 y2 y3; omega) hS.1 ((hM p hp).2 i hi) c0 (by clear y1 y2 y3; omega) hE.2.1.1 rfl hE.1.1.1 hc y4.2 y1 y2 y3 m2
    refine ⟨(Mk, C), m1, (r, C'), a1, ?_⟩
    exact w_opStep (Y := l.filter (fun q => xv ((T p).2 i) q.1 != 0)) hP (fun q hq => hl.2.1 q (List.mem_filter.mp hq).1) (tot_filter hl.nn).2 a2 m3 (sp2 c2) hQ
  rw [if_neg c2]
  have wrap : ∀ (r : Int) (k' : Nat) (G' : tG) (C' : mA), (r = 0 ∨ r = 1) → wPo o m sp sl hm T b sE cnt pa cr L k G C (B + gv (Fb (T p).2 b) 16 i) kept (tot l) (sSt T 40 p i l) r k' G' C' → (if (r = 0 ∨ r = 1) then Q r C' G' k' else False) := fun r k' G' C' h1 h2 => by
    rw [if_pos h1]
    exact hQ r k' G' C' h1 h2
  by_cases c3 : sK ((T p).2 i) = 3
  · rw [if_pos c3]
    exact w_if (Q := fun r24 A25 G26 k27 => (if (r24 = 0 ∨ r24 = 1) then Q r24 A25 G26 k27 else False)) hT hM hBS hp hi c3 hd hk hP hL hd0 hd4 h50 wrap
  rw [if_neg c3]
  by_cases c4 : sK ((T p).2 i) = 4
  · rw [if_pos c4]
    exact w_loop (Q := fun r24 A25 G26 k27 => (if (r24 = 0 ∨ r24 = 1) then Q r24 A25 G26 k27 else False)) hT hs hBS hp hi c4 hd hk hP hL hd0 hd4 h50 wrap
  rw [if_neg c4]
  exact w_run (Q := fun r24 A25 G26 k27 => (if (r24 = 0 ∨ r24 = 1) then Q r24 A25 G26 k27 else False)) hT hM hs hBS hp hi (by clear y1 y2 y3; omega) hd hk hP hL hd0 hd4 h50 wrap
theorem w_blkGo (hT : TB T b cnt) (hs : ∀ u : Nat, u < cnt → sE u = 0 ∨ sE u = 1) {n : Nat} (hSS : wSS o m sp sl hm T b sE cnt pa wst n) {p e : Nat} {lv kept d : Int} (hp : p < cnt) (he : e ≤ (T p).1) (hd : dep p lv < n) (hk : g32 kept) (hL : L + dep p lv < 40) (hd0 : 0 ≤ d) (hd4 : d + dep p lv ≤ 40) : ∀ (mt a F j kk k : Nat) (G : tG) (C : mA) (B : Int) (l : List xE) (Q : wQ), tl (T p).2 lv mt a e → mt + j ≤ 16 → mt < F → e - a < kk → wPr o m sp sl hm T b sE cnt pa cr L k G C B l → B + tsm (gv (Fb (T p).2 b) 16) (T p).2 mt a e ≤ 50 → (∀ (r : Int) (k' : Nat) (G' : tG) (C' : mA), wPo o m sp sl hm T b sE cnt pa cr L k G C (B + tsm (gv (Fb (T p).2 b) 16) (T p).2 mt a e) kept (tot l) (sBk (sSt T 40 p) (T p).2 kk a e l) r k' G' C' → Q r C' G' k') → w_Walk_walkBlock_20 wst F k G C o (pa p) e cr kept d 1 a j Q := by
  have hc6 := hT.1
  obtain ⟨ho, hX, -⟩ := hT.2 p hp
  have h16 := ho.1
  have hvn : ∀ j, j < (T p).1 → 0 ≤ gv (Fb (T p).2 b) 16 j := fun j hj => hT.gv_nn hp 16 j hj
  have stop : ∀ (F j kk k : Nat) (G : tG) (C : mA) (B t : Int) (l : List xE) (Q : wQ), 0 < F → 0 < kk → j ≤ 16 → t = 0 → wPr o m sp sl hm T b sE cnt pa cr L k G C B l → (∀ (r : Int) (k' : Nat) (G' : tG) (C' : mA), wPo o m sp sl hm T b sE cnt pa cr L k G C (B + t) kept (tot l) (sBk (sSt T 40 p) (T p).2 kk e e l) r k' G' C' → Q r C' G' k') → w_Walk_walkBlock_20 wst F k G C o (pa p) e cr kept d 1 e j Q := fun F j kk k G C B t l Q hF hkk hj ht hP hQ => by
    obtain ⟨F, rfl⟩ : ∃ q, F = q + 1 := ⟨F - 1, by omega⟩
    obtain ⟨kk, rfl⟩ : ∃ q, kk = q + 1 := ⟨kk - 1, by omega⟩
    obtain ⟨hE, gcr, hfree, h7, hn, hc, hB, hl⟩ := hP
    have fin : Q 1 C G k := hQ 1 k G C ⟨hE, WFr.refl, h7, Or.inl ⟨rfl, l, hc, by rw [ht, Int.add_zero]; exact hl, Int.le_refl _, fun _ => by unfold sBk; rw [if_neg (Nat.lt_irrefl e)]⟩⟩
    unfold w_Walk_walkBlock_20
    rw [if_pos (show g32 (j : Int) by unfold g32; omega), if_pos (show (1 : Int) = 0 ∨ (1 : Int) = 1 from Or.inr rfl), if_pos (show g32 (e : Int) by unfold g32; omega), if_pos (show g32 (e : Int) by unfold g32; omega), if_pos (Int.le_refl _)]
    by_cases y : (16 : Int) ≤ j
    · rw [if_pos y]; exact fin
    · rw [if_neg y]; exact fin
  intro mt
  induction mt with
  | zero =>
    intro a F j kk k G C B l Q ht hj hF hkk hP h50 hQ
    have ht : a = e := ht
    subst ht
    exact stop F j kk k G C B _ l Q (by omega) (by omega) (by omega) rfl hP hQ
  | succ mt ih =>
    intro a F j kk k G C B l Q ht hj hF hkk hP h50 hQ
    rcases ht with ht | ⟨h1, h2, h3, h4, h5, h6⟩
    · subst ht
      exact stop F j kk k G C B _ l Q (by omega) (by omega) (by omega) (by rw [tsm_nil]) hP hQ
    · obtain ⟨F, rfl⟩ : ∃ q, F = q + 1 := ⟨F - 1, by omega⟩
      obtain ⟨kk, rfl⟩ : ∃ q, kk = q + 1 := ⟨kk - 1, by omega⟩
      have hi : a < (T p).1 := by omega
      have hva := hvn a hi
      unfold tsm at h50 hQ
      rw [if_pos h1] at h50 hQ
      have hrest := tsm_nn (v := gv (Fb (T p).2 b) 16) (c := (T p).2) mt (a + sI ((T p).2 a)) e (fun j q1 q2 => hvn j (by omega))
      obtain ⟨hE, gcr, hfree, h7, hn, hc, hB, hl⟩ := id hP
      have hS := ((hE.2.2.1 p hp).2 a hi)
      have bh : f_Prog_behind C (pa p) a = some (((a + sI ((T p).2 a) : Nat) : Int), C) := c_behind9 (by omega) hS.1.1.2.2.2.1 h3 (by omega)
      have ej : ((j : Int) + 1) = ((j + 1 : Nat) : Int) := by omega
      have e2 : sBk (sSt T 40 p) (T p).2 (kk + 1) a e l = (sSt T 40 p a l).bind (fun l' => sBk (sSt T 40 p) (T p).2 kk (a + sI ((T p).2 a)) e l') := by
        conv => lhs; unfold sBk
        rw [if_pos h1]
      have one : ∀ k9 : Int, g32 k9 → (kept = -1 → k9 = -1) → wst k G C o (pa p) a cr k9 d (fun r17 A18 G19 k20 => w_Walk_walkBlock_20 wst F k20 G19 A18 o (pa p) e cr kept d r17 ((a + sI ((T p).2 a) : Nat) : Int) ((j : Int) + 1) Q) := fun k9 hk9 hk91 => by
        refine hSS p a cr L k k9 d B G C l _ hp hi (by rw [h2]; exact hd) hk9 hP (by rw [h2]; exact hL) hd0 (by rw [h2]; exact hd4) (by omega) (fun r k' G' C' hr hPo => ?_)
        rw [ej]
        obtain ⟨hE', F', e7', hR'⟩ := hPo
        rcases hR' with ⟨rfl, l', c1, c2, ct, c3⟩ | ⟨rfl, c3⟩
        · refine ih (a + sI ((T p).2 a)) F (j + 1) kk k' G' C' (B + gv (Fb (T p).2 b) 16 a) l' Q h6 (by omega) (by omega) (by omega) ⟨hE', F'.1 _ _ gcr, fun q => hfree (F'.free gcr q), e7', F'.nul hn, c1, by omega, c2⟩ (by omega) (fun r9 k9' G9 C9 hP9 => hQ r9 k9' G9 C9 ?_)
          rw [← Int.add_assoc]
          refine hP9.comp F' ct (fun q => ?_)
          rw [e2, c3 (hk91 q), obind]
        · obtain ⟨F, rfl⟩ : ∃ q, F = q + 1 := ⟨F - 1, by omega⟩
          have z : Q 0 C' G' k' := hQ 0 k' G' C' ⟨hE', F', e7', Or.inr ⟨rfl, fun q => by rw [e2, c3 (hk91 q)]; rfl⟩⟩
          unfold w_Walk_walkBlock_20
          rw [if_pos (show g32 ((j + 1 : Nat) : Int) by unfold g32; omega), if_pos (show (0 : Int) = 0 ∨ (0 : Int) = 1 from Or.inl rfl), if_pos (show g32 ((a + sI ((T p).2 a) : Nat) : Int) by unfold g32; omega), if_pos (show g32 (e : Int) by unfold g32; omega), if_pos (show g32 (0 : Int) by decide), if_pos rfl]
          by_cases y : (16 : Int) ≤ ((j + 1 : Nat) : Int)
          · rw [if_pos y]; exact z
          · rw [if_neg y]
            by_cases y2 : (e : Int) ≤ ((a + sI ((T p).2 a) : Nat) : Int)
            · rw [if_pos y2]; exact z
            · rw [if_neg y2]; exact z
      unfold w_Walk_walkBlock_20
      rw [if_pos (show g32 (j : Int) by unfold g32; omega), if_neg (show ¬ (16 : Int) ≤ j by omega), if_pos (show g32 (a : Int) by unfold g32; omega), if_pos (show g32 (e : Int) by unfold g32; omega), if_neg (show ¬ (e : Int) ≤ a by omega), if_pos (show g32 (1 : Int) by decide), if_neg (show ¬ (1 : Int) = 0 by decide)]
      refine ⟨(_, C), bh, ?_⟩
      rw [if_pos hk]
      by_cases q : kept = -1
      · rw [if_pos q]
        exact one (-1) (by decide) (fun _ => rfl)
      · rw [if_neg q]
        obtain ⟨v', w1, w2⟩ := w_nf hT hE.2.2.1 hs (a := a + sI ((T p).2 a)) hp (tl_16 h6 (by omega)) he hk
        exact ⟨(v', C), w1, one v' w2 (fun z => absurd z q)⟩
theorem w_blk (hT : TB T b cnt) (hs : ∀ u : Nat, u < cnt → sE u = 0 ∨ sE u = 1) {n : Nat} (hSS : wSS o m sp sl hm T b sE cnt pa wst n) : wBS o m sp sl hm T b sE cnt pa wst n := by
  intro p a e cr L k lv kept d B G C l Q hp ht he hlv hd hk hP hL hd0 hd4 h50 hQ
  have h16 := (hT.2 p hp).1.1
  unfold w_Walk_walkBlock
  rw [if_pos (show g32 d by unfold g32; omega), if_neg (show ¬ (40 : Int) < d by omega)]
  exact w_blkGo hT hs hSS hp he hd hk hL hd0 hd4 16 a 20 0 17 k G C B l Q ht (by omega) (by omega) (by omega) hP h50 hQ
theorem w_all (hT : TB T b cnt) (hM : mTab T cnt M) (hs : ∀ u : Nat, u < cnt → sE u = 0 ∨ sE u = 1) : ∀ n : Nat, wSS o m sp sl hm T b sE cnt pa (w_Walk_wsN n) n := by
  intro n
  induction n with
  | zero => intro p i cr L k kept d B G C l Q _ _ hd; omega
  | succ n ih =>
    have h := w_stp (wst := w_Walk_wsN n) hT hM hs (w_blk hT hs ih)
    intro p i cr L k kept d B G C l Q q1 q2 q3 q4 q5 q6 q7 q8 q9 q10
    exact h p i cr L k kept d B G C l Q q1 q2 q3 q4 q5 q6 q7 q8 q9 q10
end WALL
