/-! the class's walk: what holds around it; lending (own work) -/
theorem cr_vals {G : tG} {c s t : Nat} (h : crF G c s t) : crG G c s t c = some 0 ∧ crG G c s t s = some 31 ∧ crG G c s t t = some 32 := by
  obtain ⟨-, -, -, h1, h2, h3⟩ := h
  have e1 : (c == s) = false := by simpa using Nat.ne_of_lt h1
  have e2 : (c == t) = false := by simpa using Nat.ne_of_lt h2
  have e3 : (s == t) = false := by simpa using h3
  refine ⟨?_, ?_, ?_⟩
  · simp [crG, gext, xN, List.find?]
  · simp [crG, gext, xN, List.find?, e1]
  · simp [crG, gext, xN, List.find?, e2, e3]
def nulN (f : Nat → Int) : Nat → Nat
  | 0 => 0
  | n + 1 => nulN f n + if f n < 0 then 1 else 0
theorem nulN_cg {f g : Nat → Int} : ∀ n, (∀ i, i < n → g i = f i) → nulN g n = nulN f n := by
  intro n
  induction n with
  | zero => intro _; rfl
  | succ n ih =>
    intro h
    show nulN g n + (if g n < 0 then 1 else 0) = nulN f n + (if f n < 0 then 1 else 0)
    rw [ih (fun i hi => h i (by omega)), h n (by omega)]
theorem nulN_set {f g : Nat → Int} {i : Nat} (h1 : f i < 0) (h2 : 0 ≤ g i) : ∀ n, i < n → (∀ j, j < n → j ≠ i → g j = f j) → nulN f n = nulN g n + 1 := by
  intro n
  induction n with
  | zero => intro h; omega
  | succ n ih =>
    intro hi h
    show nulN f n + (if f n < 0 then 1 else 0) = nulN g n + (if g n < 0 then 1 else 0) + 1
    by_cases k : n = i
    · subst k
      rw [if_pos h1, if_neg (by omega), nulN_cg (f := f) (g := g) n (fun j hj => h j (by omega) (by omega))]
    · rw [ih (by omega) (fun j q1 q2 => h j (by omega) q2), h n (by omega) (fun q => k q)]
      omega
def CWs (C : mA) (a : Nat) (l : List xE) : Prop := CW C a (C 0 a 0).toNat (C 0 a 1).toNat l
/-- mixer, crowds and spares share nothing -/
def WI (m sp sl hm : Nat) (G : tG) (C : mA) : Prop :=
  (mx0 C m (C 1 m 0).toNat (C 1 m 1).toNat sl hm ∧ G (C 1 m 0).toNat = some 31 ∧ G (C 1 m 1).toNat = some 32 ∧ G hm = some 31) ∧
  (∀ a, G a = some 0 → (G (C 0 a 0).toNat = some 31 ∧ G (C 0 a 1).toNat = some 32) ∧ (C 0 a 0).toNat ≠ (C 1 m 0).toNat ∧ (C 0 a 0).toNat ≠ hm ∧ (C 0 a 1).toNat ≠ (C 1 m 1).toNat ∧ gCr C a) ∧
  (∀ a a', G a = some 0 → G a' = some 0 → a ≠ a' → (C 0 a 0).toNat ≠ (C 0 a' 0).toNat ∧ (C 0 a 1).toNat ≠ (C 0 a' 1).toNat) ∧
  ∀ i, i < 40 → 0 ≤ C 35 sp i → G (C 35 sp i).toNat = some 0 ∧ ∀ j, j < 40 → j ≠ i → 0 ≤ C 35 sp j → (C 35 sp j).toNat ≠ (C 35 sp i).toNat
def wFree (C : mA) (sp L a : Nat) : Prop := ∃ i, L ≤ i ∧ i < 40 ∧ 0 ≤ C 35 sp i ∧ (C 35 sp i).toNat = a
abbrev nul (C : mA) (sp : Nat) : Nat := nulN (C 35 sp) 40
/-- what a walk may change: crowds of S, free spares, what is told of runs -/
def WFr (o m sp : Nat) (S : Nat → Prop) (L k : Nat) (G : tG) (C : mA) (k' : Nat) (G' : tG) (C' : mA) : Prop :=
  (∀ a τ, G a = some τ → G' a = some τ) ∧
  (∀ f a j, ¬ (f = 0 ∨ (f = 1 ∧ a = m ∧ j < 3) ∨ f = 23 ∨ f = 28 ∨ f = 29 ∨ f = 31 ∨ f = 32 ∨ f = 33 ∨ (f = 35 ∧ a = sp) ∨ f = 37 ∨ (f = 7 ∧ a = o ∧ j = 2)) → C' f a j = C f a j) ∧
  (∀ a, G a = some 0 → ¬ S a → (∀ j, C' 0 a j = C 0 a j) ∧ (∀ j, C' 31 (C 0 a 0).toNat j = C 31 (C 0 a 0).toNat j) ∧ ∀ j, C' 32 (C 0 a 1).toNat j = C 32 (C 0 a 1).toNat j) ∧
  (∀ i, i < 40 → (i < L ∨ 0 ≤ C 35 sp i) → C' 35 sp i = C 35 sp i) ∧ (∀ i, i < 40 → C 35 sp i < 0 → 0 ≤ C' 35 sp i → G (C' 35 sp i).toNat = none) ∧
  nul C sp + k' = nul C' sp + k ∧ ∀ a j, C 28 a j ≠ 0 → C' 28 a j ≠ 0
theorem CWs.cg {C C' : mA} {a : Nat} {l : List xE} (h : CWs C a l) (h0 : ∀ j, C' 0 a j = C 0 a j) (h1 : ∀ j, C' 31 (C 0 a 0).toNat j = C 31 (C 0 a 0).toNat j) (h2 : ∀ j, C' 32 (C 0 a 1).toNat j = C 32 (C 0 a 1).toNat j) : CWs C' a l := by
  unfold CWs
  rw [h0 0, h0 1]
  exact CW.cg h (fun j _ => h0 j) (fun j _ => h1 j) (fun j _ => h2 j)
theorem CWs.of {C : mA} {a s t : Nat} {l : List xE} (h : CW C a s t l) : CWs C a l := by
  unfold CWs
  rw [h.1, h.2.1]
  exact h
section WFS
variable {o m sp sl hm L L' k k' k'' : Nat} {S S' : Nat → Prop} {G G' G'' : tG} {C C' C'' : mA}
theorem WFr.refl : WFr o m sp S L k G C k G C := ⟨fun _ _ h => h, fun _ _ _ _ => rfl, fun _ _ _ => ⟨fun _ => rfl, fun _ => rfl, fun _ => rfl⟩, fun _ _ _ => rfl, fun _ _ h1 h2 => absurd h1 (by omega), rfl, fun _ _ q => q⟩
theorem WFr.sub (h : WFr o m sp S L k G C k' G' C') (hs : ∀ a, G a = some 0 → S a → S' a) (hL : L' ≤ L) : WFr o m sp S' L' k G C k' G' C' := ⟨h.1, h.2.1, fun a ha hn => h.2.2.1 a ha (fun q => hn (hs a ha q)), fun i hi q => h.2.2.2.1 i hi (by omega), h.2.2.2.2⟩
theorem WFr.trans (h : WFr o m sp S L k G C k' G' C') (h' : WFr o m sp S' L k' G' C' k'' G'' C'') (hs : ∀ a, G a = some 0 → S' a → S a) : WFr o m sp S L k G C k'' G'' C'' := by
  obtain ⟨a1, a2, a3, a4, a5, a6, a7⟩ := h
  obtain ⟨b1, b2, b3, b4, b5, b6, b7⟩ := h'
  refine ⟨fun a τ q => b1 a τ (a1 a τ q), fun f a j q => (b2 f a j q).trans (a2 f a j q), fun a ha hn => ?_, fun i hi q => ?_, fun i hi q1 q2 => ?_, by omega, fun a j q => b7 a j (a7 a j q)⟩
  · obtain ⟨c1, c2, c3⟩ := a3 a ha hn
    obtain ⟨d1, d2, d3⟩ := b3 a (a1 a 0 ha) (fun q => hn (hs a ha q))
    rw [c1 0] at d2
    rw [c1 1] at d3
    exact ⟨fun j => (d1 j).trans (c1 j), fun j => (d2 j).trans (c2 j), fun j => (d3 j).trans (c3 j)⟩
  · have e := a4 i hi q
    rw [b4 i hi (by omega), e]
  · by_cases z : C' 35 sp i < 0
    · have n := b5 i hi z q2
      cases hg : G (C'' 35 sp i).toNat with
      | none => rfl
      | some τ => rw [a1 _ _ hg] at n; cases n
    · rw [b4 i hi (Or.inr (by omega))]
      exact a5 i hi q1 (by omega)
/-- a crowd that was here and is not free is not free later -/
theorem WFr.free (h : WFr o m sp S L k G C k' G' C') {a : Nat} (ha : G a = some 0) (q : wFree C' sp L' a) : wFree C sp L' a := by
  obtain ⟨i, i1, i2, i3, i4⟩ := q
  by_cases z : C 35 sp i < 0
  · have n := h.2.2.2.2.1 i i2 z i3
    rw [i4, ha] at n
    cases n
  · refine ⟨i, i1, i2, by omega, ?_⟩
    rw [← h.2.2.2.1 i i2 (Or.inr (by omega))]
    exact i4
theorem WFr.cw (h : WFr o m sp S L k G C k' G' C') {a : Nat} {l : List xE} (ha : G a = some 0) (hn : ¬ S a) (hc : CWs C a l) : CWs C' a l := by
  obtain ⟨c1, c2, c3⟩ := h.2.2.1 a ha hn
  exact hc.cg c1 c2 c3
theorem WI.m3 (h : WI m sp sl hm G C) : (C 1 m 3).toNat = sl ∧ (C 1 m 4).toNat = hm := ⟨h.1.1.2.2.1, h.1.1.2.2.2.1⟩
theorem crI_o {A : mA} {c s t f a j : Nat} (h : ¬ (f = 0 ∧ a = c) ∧ ¬ (f = 31 ∧ a = s) ∧ ¬ (f = 32 ∧ a = t)) : crI A c s t f a j = A f a j := by
  unfold crI
  rw [if_neg h.1, if_neg h.2.1, if_neg h.2.2]
theorem mx0.cg {st wt : Nat} (h : mx0 C m st wt sl hm) (h1 : ∀ j, j < 5 → C' 1 m j = C 1 m j) (h33 : ∀ j, C' 33 sl j = C 33 sl j) : mx0 C' m st wt sl hm := by
  obtain ⟨a1, a2, a3, a4, a5, a6⟩ := h
  exact ⟨by rw [h1 0 (by decide)]; exact a1, by rw [h1 1 (by decide)]; exact a2, by rw [h1 3 (by decide)]; exact a3, by rw [h1 4 (by decide)]; exact a4, a5, fun x hx => by rw [h33 x]; exact a6 x hx⟩
/-- a write that crowds and mixer don't notice -/
theorem WI.cg (h : WI m sp sl hm G C) (h0 : ∀ a, G a = some 0 → C' 0 a 0 = C 0 a 0 ∧ C' 0 a 1 = C 0 a 1 ∧ gCr C' a) (h1 : ∀ j, j < 5 → C' 1 m j = C 1 m j) (h33 : ∀ j, C' 33 sl j = C 33 sl j) (h35 : ∀ i, i < 40 → C' 35 sp i = C 35 sp i) : WI m sp sl hm G C' := by
  obtain ⟨⟨a1, a2, a3, a4⟩, b, c, d⟩ := h
  refine ⟨⟨?_, by rw [h1 0 (by decide)]; exact a2, by rw [h1 1 (by decide)]; exact a3, a4⟩, fun a ha => ?_, fun a a' ha ha' hn => ?_, fun i hi q => ?_⟩
  · rw [h1 0 (by decide), h1 1 (by decide)]
    exact mx0.cg a1 h1 h33
  · obtain ⟨e0, e1, e2⟩ := h0 a ha
    obtain ⟨b1, b2, b3, b4, -⟩ := b a ha
    rw [e0, e1, h1 0 (by decide), h1 1 (by decide)]
    exact ⟨b1, b2, b3, b4, e2⟩
  · obtain ⟨e0, e1, -⟩ := h0 a ha
    obtain ⟨f0, f1, -⟩ := h0 a' ha'
    rw [e0, e1, f0, f1]
    exact c a a' ha ha' hn
  · rw [h35 i hi] at q ⊢
    obtain ⟨d1, d2⟩ := d i hi q
    exact ⟨d1, fun j hj hn q2 => by rw [h35 j hj] at q2 ⊢; exact d2 j hj hn q2⟩
theorem WI.new {c s t : Nat} (h : WI m sp sl hm G C) (hf : crF G c s t) (hL : L < 40) (hn : C 35 sp L < 0) (e : C' = mu (crI C c s t) 35 sp L (c : Int)) : WI m sp sl hm (crG G c s t) C' := by
  obtain ⟨v1, v2, v3⟩ := cr_vals hf
  have go := crG_go hf
  obtain ⟨f1, f2, f3, f4, f5, f6⟩ := id hf
  obtain ⟨⟨a1, a2, a3, a4⟩, b, cc, d⟩ := h
  have ne : ∀ {x y τ}, G x = some τ → G y = none → x ≠ y := fun h1 h2 q => by rw [q, h2] at h1; cases h1
  have w0 : ∀ f a j, f ≠ 35 → ¬ (f = 0 ∧ a = c) → ¬ (f = 31 ∧ a = s) → ¬ (f = 32 ∧ a = t) → C' f a j = C f a j := fun f a j q1 q2 q3 q4 => by rw [e, mu_ne _ _ (by omega), crI_o ⟨q2, q3, q4⟩]
  have w35 : ∀ i, i ≠ L → C' 35 sp i = C 35 sp i := fun i q => by rw [e, mu_ne _ _ (by omega), crI_o ⟨by omega, by omega, by omega⟩]
  have wL : C' 35 sp L = (c : Int) := by rw [e, mu_at]
  have wc0 : C' 0 c 0 = (s : Int) := by rw [e, mu_ne _ _ (by omega)]; unfold crI; rw [if_pos ⟨rfl, rfl⟩, if_pos rfl]
  have wc1 : C' 0 c 1 = (t : Int) := by rw [e, mu_ne _ _ (by omega)]; unfold crI; rw [if_pos ⟨rfl, rfl⟩, if_neg (by decide), if_pos rfl]
  have wc2 : C' 0 c 2 = 0 := by rw [e, mu_ne _ _ (by omega)]; unfold crI; rw [if_pos ⟨rfl, rfl⟩, if_neg (by decide), if_neg (by decide)]
  have wc3 : C' 0 c 3 = 0 := by rw [e, mu_ne _ _ (by omega)]; unfold crI; rw [if_pos ⟨rfl, rfl⟩, if_neg (by decide), if_neg (by decide)]
  have m1 : ∀ j, C' 1 m j = C 1 m j := fun j => w0 1 m j (by omega) (by omega) (by omega) (by omega)
  have old : ∀ a, crG G c s t a = some 0 → a ≠ c → G a = some 0 := fun a ha hac => by
    by_cases q1 : a = s
    · rw [q1, v2] at ha; cases ha
    by_cases q2 : a = t
    · rw [q2, v3] at ha; cases ha
    rw [gext_o hac q1 q2] at ha
    exact ha
  have o0 : ∀ a, a ≠ c → ∀ j, C' 0 a j = C 0 a j := fun a q j => w0 0 a j (by omega) (by omega) (by omega) (by omega)
  refine ⟨⟨?_, by rw [m1]; exact go _ _ a2, by rw [m1]; exact go _ _ a3, go _ _ a4⟩, fun a ha => ?_, fun a a' ha ha' hna => ?_, fun i hi q => ?_⟩
  · rw [m1, m1]
    exact mx0.cg a1 (fun j _ => m1 j) (fun j => w0 33 sl j (by omega) (by omega) (by omega) (by omega))
  · by_cases q : a = c
    · subst q
      rw [wc0, wc1, m1, m1, Int.toNat_natCast, Int.toNat_natCast]
      exact ⟨⟨v2, v3⟩, fun z => ne a2 f2 z.symm, fun z => ne a4 f2 z.symm, fun z => ne a3 f3 z.symm, ⟨by rw [wc2]; decide, by rw [wc3]; decide⟩⟩
    · obtain ⟨⟨b1, b2⟩, b3, b4, b5, b6⟩ := b a (old a ha q)
      rw [o0 a q 0, o0 a q 1, m1, m1]
      exact ⟨⟨go _ _ b1, go _ _ b2⟩, b3, b4, b5, ⟨by rw [o0 a q]; exact b6.1, by rw [o0 a q]; exact b6.2⟩⟩
  · have one : ∀ a, G a = some 0 → a ≠ c → (C' 0 c 0).toNat ≠ (C' 0 a 0).toNat ∧ (C' 0 c 1).toNat ≠ (C' 0 a 1).toNat := fun a ha q => by
      obtain ⟨⟨b1, b2⟩, -⟩ := b a ha
      rw [wc0, wc1, o0 a q, o0 a q, Int.toNat_natCast, Int.toNat_natCast]
      exact ⟨fun z => ne b1 f2 z.symm, fun z => ne b2 f3 z.symm⟩
    by_cases q : a = c
    · subst q
      exact one a' (old a' ha' (Ne.symm hna)) (Ne.symm hna)
    · by_cases q' : a' = c
      · subst q'
        obtain ⟨x, y⟩ := one a (old a ha q) q
        exact ⟨fun z => x z.symm, fun z => y z.symm⟩
      · rw [o0 a q, o0 a q, o0 a' q', o0 a' q']
        exact cc a a' (old a ha q) (old a' ha' q') hna
  · by_cases qi : i = L
    · subst qi
      rw [wL, Int.toNat_natCast]
      refine ⟨v1, fun j hj hne q2 => ?_⟩
      rw [w35 j hne] at q2 ⊢
      exact ne (d j hj q2).1 f1
    · rw [w35 i qi] at q ⊢
      obtain ⟨d1, d2⟩ := d i hi q
      refine ⟨go _ _ d1, fun j hj hne q2 => ?_⟩
      by_cases qj : j = L
      · subst qj
        rw [wL, Int.toNat_natCast]
        exact fun z => ne d1 f1 z.symm
      · rw [w35 j qj] at q2 ⊢
        exact d2 j hj hne q2
/-- a crowd is lent -/
theorem w_lend9 {Q : wQ} (h : WI m sp sl hm G C) (h1 : (C 7 o 1).toNat = sp) (hL : C 7 o 2 = L) (hL4 : L < 40) (hk : nul C sp ≤ k)
    (hQ : ∀ (r : Nat) (C' : mA) (G' : tG) (k' : Nat), WI m sp sl hm G' C' → WFr o m sp (fun _ => False) L k G C k' G' C' → C' 7 o 2 = ((L + 1 : Nat) : Int) → C' 35 sp L = (r : Int) → G' r = some 0 → (∀ a, G a = some 0 → ¬ wFree C sp L a → a ≠ r) → nul C' sp ≤ k' → (∀ f a j, f ≠ 0 → f ≠ 31 → f ≠ 32 → f ≠ 35 → f ≠ 7 → C' f a j = C f a j) → Q r C' G' k') : w_Walk_lend k G C o Q := by
  unfold w_Walk_lend
  have pL : 0 ≤ (L : Int) ∧ (L : Int) < ((40 : Nat) : Int) := by omega
  have eL : (L : Int) + 1 - 1 = (L : Int) := by omega
  rw [hL, h1, if_pos (show g32 (L : Int) by unfold g32; omega), if_neg (show ¬ (L : Int) < 0 by omega), if_pos (show g32 ((40 : Nat) : Int) by decide), if_pos pL.2, if_pos pL]
  simp only [eL, Int.toNat_natCast]
  by_cases z : 0 ≤ C 35 sp L
  · rw [if_pos z, if_pos pL, if_pos z]
    obtain ⟨d1, d2⟩ := h.2.2.2 L hL4 z
    have en : nul (mu C 7 o 2 ((L : Int) + 1)) sp = nul C sp := nulN_cg 40 (fun i _ => mu_ne _ _ (by omega))
    have f0 : ∀ f a j, ¬ (f = 7 ∧ a = o ∧ j = 2) → mu C 7 o 2 ((L : Int) + 1) f a j = C f a j := fun f a j q => mu_ne _ _ (by omega)
    refine hQ _ _ _ _ (h.cg (fun a ha => ⟨f0 0 a 0 (by omega), f0 0 a 1 (by omega), ⟨by rw [f0 0 a 2 (by omega)]; exact (h.2.1 a ha).2.2.2.2.1, by rw [f0 0 a 3 (by omega)]; exact (h.2.1 a ha).2.2.2.2.2⟩⟩) (fun j _ => f0 1 m j (by omega)) (fun j => f0 33 sl j (by omega)) (fun i _ => f0 35 sp i (by omega))) ⟨fun _ _ q => q, fun f a j q => f0 f a j (by omega), fun a _ _ => ⟨fun j => f0 0 a j (by omega), fun j => f0 31 _ j (by omega), fun j => f0 32 _ j (by omega)⟩, fun i _ _ => f0 35 sp i (by omega), fun i _ q1 q2 => ?_, ?_, fun a j q => by rw [f0 28 a j (by omega)]; exact q⟩ (mu_at _ _ _ _ _) ?_ d1 (fun a ha hn q => hn ⟨L, Nat.le_refl _, hL4, z, q.symm⟩) ?_ (fun f a j q1 q2 q3 q4 q5 => f0 f a j (by omega))
    · rw [f0 35 sp i (by omega)] at q2
      omega
    · rw [en]
    · rw [f0 35 sp L (by omega)]
      omega
    · rw [en]
      exact hk
  · rw [if_neg z]
    have hn : C 35 sp L < 0 := by omega
    have n1 : nul C sp = nul (mu C 35 sp L 0) sp + 1 := nulN_set (i := L) hn (by rw [mu_at]; decide) 40 hL4 (fun j _ q => mu_ne _ _ (by omega))
    obtain ⟨k9, rfl⟩ : ∃ q, k = q + 1 := ⟨k - 1, by omega⟩
    refine ⟨k9, rfl, fun c s t hf => ?_⟩
    have e72 : crI C c s t 7 o 2 = (L : Int) := by rw [crI_o ⟨by omega, by omega, by omega⟩]; exact hL
    have e71 : (crI C c s t 7 o 1).toNat = sp := by rw [crI_o ⟨by omega, by omega, by omega⟩]; exact h1
    rw [e72, e71, if_pos pL, eL, if_pos pL, Int.toNat_natCast, mu_at, if_pos (Int.natCast_nonneg c), Int.toNat_natCast]
    obtain ⟨C1, hC1⟩ : ∃ C1, C1 = mu (crI C c s t) 35 sp L (c : Int) := ⟨_, rfl⟩
    rw [← hC1]
    have hW := h.new hf hL4 hn hC1
    have f0 : ∀ f a j, ¬ (f = 7 ∧ a = o ∧ j = 2) → mu C1 7 o 2 ((L : Int) + 1) f a j = C1 f a j := fun f a j q => mu_ne _ _ (by omega)
    have w0 : ∀ f a j, ¬ (f = 7 ∧ a = o ∧ j = 2) → ¬ (f = 35 ∧ a = sp ∧ j = L) → ¬ (f = 0 ∧ a = c) → ¬ (f = 31 ∧ a = s) → ¬ (f = 32 ∧ a = t) → mu C1 7 o 2 ((L : Int) + 1) f a j = C f a j := fun f a j q0 q1 q2 q3 q4 => by rw [f0 f a j q0, hC1, mu_ne _ _ (by omega), crI_o ⟨q2, q3, q4⟩]
    have wL : C1 35 sp L = (c : Int) := by rw [hC1, mu_at]
    have w35 : ∀ i, i ≠ L → mu C1 7 o 2 ((L : Int) + 1) 35 sp i = C 35 sp i := fun i q => w0 35 sp i (by omega) (by omega) (by omega) (by omega) (by omega)
    have n2 : nul C sp = nul (mu C1 7 o 2 ((L : Int) + 1)) sp + 1 := nulN_set (i := L) hn (by rw [f0 35 sp L (by omega), wL]; exact Int.natCast_nonneg c) 40 hL4 (fun j _ q => w35 j q)
    obtain ⟨f1, f2, f3, f4, f5, f6⟩ := id hf
    have ne : ∀ {x y τ}, G x = some τ → G y = none → x ≠ y := fun h1 h2 q => by rw [q, h2] at h1; cases h1
    refine hQ c _ _ _ (hW.cg (fun a ha => ⟨f0 0 a 0 (by omega), f0 0 a 1 (by omega), ⟨by rw [f0 0 a 2 (by omega)]; exact (hW.2.1 a ha).2.2.2.2.1, by rw [f0 0 a 3 (by omega)]; exact (hW.2.1 a ha).2.2.2.2.2⟩⟩) (fun j _ => f0 1 m j (by omega)) (fun j => f0 33 sl j (by omega)) (fun i _ => f0 35 sp i (by omega))) ⟨crG_go hf, fun f a j q => ?_, fun a ha _ => ?_, fun i hi q => ?_, fun i hi q1 q2 => ?_, by omega, fun a j q => by rw [w0 28 a j (by omega) (by omega) (by omega) (by omega) (by omega)]; exact q⟩ (mu_at _ _ _ _ _) (by rw [f0 35 sp L (by omega)]; exact wL) (cr_vals hf).1 (fun a ha _ => ne ha f1) (by omega) (fun f a j q1 q2 q3 q4 q5 => w0 f a j (by omega) (by omega) (by omega) (by omega) (by omega))
    · exact w0 f a j (by omega) (by omega) (by omega) (by omega) (by omega)
    · obtain ⟨⟨b1, b2⟩, -⟩ := h.2.1 a ha
      have n0 := ne ha f1
      have n3 := ne b1 f2
      have n4 := ne b2 f3
      exact ⟨fun j => w0 0 a j (by omega) (by omega) (by omega) (by omega) (by omega), fun j => w0 31 _ j (by omega) (by omega) (by omega) (by omega) (by omega), fun j => w0 32 _ j (by omega) (by omega) (by omega) (by omega) (by omega)⟩
    · by_cases qi : i = L
      · subst qi; omega
      · exact w35 i qi
    · by_cases qi : i = L
      · subst qi
        rw [f0 35 sp i (by omega), wL, Int.toNat_natCast]
        exact f1
      · rw [w35 i qi] at q2
        omega
end WFS
