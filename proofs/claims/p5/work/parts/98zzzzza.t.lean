/-! the class's walk: environment, what is asked and what is left (own work) -/
section NDD
variable {C : mA} {pr N P : Nat} {c : Nat → kS} {sE : Int → Int}
theorem c_naoD (ho : okN P c N) (hC : ∀ i, i < N → cS9 C pr i (c i)) (hx : ∀ i, i < N → okX (c i)) (h12 : ∀ i, i < N → C 6 (sAd C pr i) 12 = vSee c sE i) (hs : ∀ u : Nat, u < P → sE u = 0 ∨ sE u = 1) : ∀ (K i : Nat) (dp v : Int), i < N → 5 ≤ K + sV (c i) → 0 ≤ dp ∧ dp ≤ sV (c i) → g32 v → f_Prog_naoN K C pr i v dp = some (ndS c sE 16 i v, C) := by
  have hN := ho.1
  have hr : ∀ i, i < N → ∀ v, g32 v → g32 (ndS c sE 16 i v) := fun i hi => ndS_r ho 16 i (by omega) hi
  have h4 : ∀ i, i < N → C 6 (sAd C pr i) 4 = sV (c i) ∧ (0 ≤ sV (c i) ∧ sV (c i) ≤ 4) := fun i hi => ⟨(hC i hi).1.2.2.2.2, (ho.2.2 i hi).1.2.1⟩
  intro K
  induction K with
  | zero =>
    intro i dp v h1 h2 hdp hv
    have := (h4 i h1).2
    omega
  | succ K ih =>
    intro i dp v h1 h2 hdp hv
    obtain ⟨⟨e0, e1, e2, e3, e4⟩, e5, e6, -, -⟩ := hC i h1
    obtain ⟨⟨hK, hV, hI, g3, g4, g5, g0, gn⟩, g9⟩ := ho.2.2 i h1
    obtain ⟨x1, x2, x3, x4⟩ := hx i h1
    have bh : f_Prog_behind C pr i = some (((i + sI (c i) : Nat) : Int), C) := c_behind9 (by omega) e3 hI (by omega)
    show f_Prog_neededAheadOf (f_Prog_naoN K) C pr i v dp = _
    rw [ndS_eq ho h1]
    have blk : ∀ (a' b' : Nat) (V : Int), tl c (sV (c i) + 1) 16 a' b' → b' ≤ i + sI (c i) → sV (c i) ≤ 3 → g32 V → f_Prog_neededAhead (f_Prog_naoN K) C pr a' b' V (dp + 1) = some (ndB c (ndS c sE 16) 16 a' b' V, C) := fun a' b' V t q2 q3 hV => c_ndBl hN h4 (by omega) (by omega) t (fun j p1 p2 p3 V2 hV2 => by
      exact ih j (dp + 1) V2 (by omega) (by omega) (by omega) hV2) (fun j p1 p2 => hr j (by omega)) hV
    have blkr : ∀ (a' b' : Nat) (L' V : Int), tl c L' 16 a' b' → b' ≤ i + sI (c i) → g32 V → g32 (ndB c (ndS c sE 16) 16 a' b' V) := fun a' b' L' V t q2 hV => ndB_r _ _ _ t (fun j q1 q3 => hr j (by omega)) V hV
    have if3 : sK (c i) = 3 → Option.bind (f_Prog_neededAhead (f_Prog_naoN K) C pr ((i : Int) + 1) (C 6 (sAd C pr i) 5) v (dp + 1)) (fun q33 => Option.bind (f_Prog_neededAhead (f_Prog_naoN K) q33.2 pr (q33.2 6 (sAd C pr i) 5) ((i + sI (c i) : Nat) : Int) v (dp + 1)) (fun q35 => some (iOr (iOr (C 6 (sAd C pr i) 6) q33.1) q35.1, q35.2))) = some (iOr (iOr (ndB c (ndS c sE 16) 16 (i + 1) (i + sO (c i)) v) (ndB c (ndS c sE 16) 16 (i + sO (c i)) (i + sI (c i)) v)) (kSee 0 (sC (c i))), C) := fun c3 => by
      obtain ⟨l3, o1, o2, t1, t2⟩ := g3 c3
      have k1 := blk (i + 1) (i + sO (c i)) v t1 (by omega) l3 hv
      have k2 := blk (i + sO (c i)) (i + sI (c i)) v t2 (by omega) l3 hv
      have k1' : f_Prog_neededAhead (f_Prog_naoN K) C pr ((i : Int) + 1) (C 6 (sAd C pr i) 5) v (dp + 1) = some (ndB c (ndS c sE 16) 16 (i + 1) (i + sO (c i)) v, C) := by
        rw [e5 c3]
        exact k1
      rw [k1', obind]
      show Option.bind (f_Prog_neededAhead (f_Prog_naoN K) C pr (C 6 (sAd C pr i) 5) ((i + sI (c i) : Nat) : Int) v (dp + 1)) _ = _
      rw [e5 c3, k2, obind, e6, iOr_3]
    have loop : sK (c i) = 4 → Option.bind (f_Prog_neededAheadOfTimes (f_Prog_naoN K) C pr i (C 6 (sAd C pr i) 2) v dp) (fun q38 => some (q38.1, q38.2)) = some (ndL (ndB c (ndS c sE 16) 16 (i + 1) (i + sI (c i))) (sU (c i)).toNat v, C) := fun c4 => by
      obtain ⟨l3, u1, t1⟩ := g4 c4
      have m := c_ndT (C := C) (pr := pr) (c := c) hN (nao := f_Prog_naoN K) (T := (sU (c i)).toNat) (g := ndB c (ndS c sE 16) 16 (i + 1) (i + sI (c i))) (d := dp) (by omega) h1 bh (fun V hV => blk (i + 1) (i + sI (c i)) V t1 (Nat.le_refl _) l3 hV) (fun V hV => blkr _ _ _ V t1 (Nat.le_refl _) hV) (sU (c i)).toNat 20 0 v (by omega) (by omega) hv
      have m' : f_Prog_neededAheadOfTimes (f_Prog_naoN K) C pr i (C 6 (sAd C pr i) 2) v dp = some (ndL (ndB c (ndS c sE 16) 16 (i + 1) (i + sI (c i))) (sU (c i)).toNat v, C) := by
        rw [e2, ← Int.toNat_of_nonneg u1.1]
        exact m
      rw [m', obind]
    unfold f_Prog_neededAheadOf
    rw [c_stepA6 (by omega) (by omega), obind]
    show Option.bind (f_Prog_behind C pr i) _ = _
    rw [bh, obind]
    simp only [Int.toNat_natCast]
    rw [e1, if_pos (show g32 (sN (c i)) by unfold g32; omega)]
    unfold ndF
    by_cases cn : sN (c i) = -1
    · have eb : nBt (c i) = 0 := if_pos cn
      rw [if_pos cn, e0, if_pos (show g32 (sK (c i)) by unfold g32; omega)]
      by_cases c0 : sK (c i) = 0
      · have := x1 (Or.inl c0)
        omega
      rw [if_neg c0, if_neg c0]
      by_cases c1 : sK (c i) = 1
      · have := x1 (Or.inr (Or.inl c1))
        omega
      rw [if_neg c1, if_neg c1]
      by_cases c2 : sK (c i) = 2
      · rw [if_pos c2, if_pos c2, e6]
      rw [if_neg c2, if_neg c2]
      by_cases c3 : sK (c i) = 3
      · rw [if_pos c3, if_pos c3]
        exact if3 c3
      rw [if_neg c3, if_neg c3]
      by_cases c4 : sK (c i) = 4
      · rw [if_pos c4, if_pos c4]
        exact loop c4
      · have := x1 (Or.inr (Or.inr (by omega)))
        omega
    · have eb : nBt (c i) = iShl 1 (sN (c i)) := if_neg cn
      have en : iAnd v (iXor (iShl 1 (sN (c i))) (-1)) = nAn v (nBt (c i)) := by
        rw [eb]
        rfl
      rw [if_neg cn, e0, if_pos (show g32 (sK (c i)) by unfold g32; omega), en]
      by_cases c0 : sK (c i) = 0
      · rw [if_pos c0, if_pos c0]
      rw [if_neg c0, if_neg c0]
      by_cases c1 : sK (c i) = 1
      · rw [if_pos c1, if_pos c1, if_pos hv]
        by_cases q : iAnd v (nBt (c i)) = 0
        · rw [if_pos ((nAn_e hv).mpr q), if_pos q]
        · rw [if_neg (fun r => q ((nAn_e hv).mp r)), if_neg q, e6]
      rw [if_neg c1, if_neg c1]
      by_cases c2 : sK (c i) = 2
      · rw [if_pos c2, if_pos c2, e6]
      rw [if_neg c2, if_neg c2]
      by_cases c3 : sK (c i) = 3
      · rw [if_pos c3, if_pos c3]
        exact if3 c3
      rw [if_neg c3, if_neg c3]
      by_cases c4 : sK (c i) = 4
      · rw [if_pos c4, if_pos c4]
        exact loop c4
      rw [if_neg c4, if_neg c4, if_pos hv]
      have c5 : sK (c i) = 5 := by omega
      obtain ⟨u1, u2⟩ := g5 c5
      have s2 := hs (sU (c i)).toNat (by omega)
      have eu : (((sU (c i)).toNat : Nat) : Int) = sU (c i) := Int.toNat_of_nonneg u1
      rw [eu] at s2
      have ev : vSee c sE i = sE (sU (c i)) := by
        unfold vSee
        rw [if_neg (by omega), if_pos c5]
      by_cases q : iAnd v (nBt (c i)) = 0
      · rw [if_pos ((nAn_e hv).mpr q), h12 i h1, ev, if_pos (show g32 (sE (sU (c i))) by unfold g32; omega)]
        by_cases q2 : sE (sU (c i)) = 0
        · rw [if_pos q2, if_pos ⟨q, q2⟩]
        · rw [if_neg q2, if_neg (fun r => q2 r.2), e6]
      · rw [if_neg (fun r => q ((nAn_e hv).mp r)), if_neg (fun r => q r.1), e6]
end NDD

def wTb (T : xT) (b sE : Int → Int) (cnt : Nat) (pa : Nat → Nat) (C : mA) : Prop := ∀ p : Nat, p < cnt → (C 2 (pa p) 1 = ((T p).1 : Int) ∧ C 2 (pa p) 8 = b p) ∧ ∀ i, i < (T p).1 → cS9 C (pa p) i ((T p).2 i) ∧ C 6 (sAd C (pa p) i) 7 = gv (Fb (T p).2 b) 16 i ∧ C 6 (sAd C (pa p) i) 12 = vSee (T p).2 sE i ∧ C 6 (sAd C (pa p) i) 13 = vRan (T p).2 pa i
abbrev wSd (C : mA) (pr : Nat) : Nat := (C 4 (C 2 pr 12).toNat 0).toNat
abbrev wWw (C : mA) (pr : Nat) : Nat := (C 4 (C 2 pr 12).toNat 1).toNat
def wRu (cnt : Nat) (pa : Nat → Nat) (C : mA) : Prop := ∀ p p' : Nat, p < cnt → p' < cnt → p ≠ p' → wSd C (pa p) ≠ wSd C (pa p') ∧ wWw C (pa p) ≠ wWw C (pa p')
/-- what the class keeps of runs is right -/
def wCa (T : xT) (cnt : Nat) (pa : Nat → Nat) (C : mA) : Prop := ∀ p : Nat, p < cnt → ∀ d : Nat, d < 10 → C 28 (wSd C (pa p)) d = 0 ∨ (C 28 (wSd C (pa p)) d = 1 ∧ ∃ R, sRn T 40 p d = some R ∧ ∀ v : Nat, v < 10 → C 29 (wWw C (pa p)) (d * 10 + v) = xw R ((v : Nat) : Int)) ∨ (C 28 (wSd C (pa p)) d = 2 ∧ sRn T 40 p d = none)
/-- all of it -/
def WE (o m sp sl hm : Nat) (T : xT) (b sE : Int → Int) (cnt : Nat) (pa : Nat → Nat) (G : tG) (C : mA) : Prop := WI m sp sl hm G C ∧ ((C 7 o 0).toNat = m ∧ (C 7 o 1).toNat = sp) ∧ wTb T b sE cnt pa C ∧ wRu cnt pa C ∧ wCa T cnt pa C
/-- what a step of the walk leaves in its crowd -/
def wRs (C' : mA) (cr : Nat) (B' kept tt : Int) (s : Option (List xE)) (r : Int) : Prop := (r = 1 ∧ ∃ l', CWs C' cr l' ∧ gdL B' l' ∧ tot l' ≤ tt ∧ (kept = -1 → s = some l')) ∨ (r = 0 ∧ (kept = -1 → s = none))
section WES
variable {o m sp sl hm : Nat} {T : xT} {b sE : Int → Int} {cnt : Nat} {pa : Nat → Nat} {G G' G'' : tG} {C C' C'' : mA} {S S' : Nat → Prop} {L k k' k'' cr : Nat}
theorem cS9.fr13 {pr i : Nat} {e : kS} (h : cS9 C pr i e) (hf : ∀ f a j, (f = 2 ∧ j < 13) ∨ f = 6 ∨ f = 25 ∨ f = 27 ∨ f = 36 → C' f a j = C f a j) : cS9 C' pr i e ∧ sAd C' pr i = sAd C pr i := by
  have es : sAd C' pr i = sAd C pr i := by
    show (C' 25 (C' 2 pr 0).toNat i).toNat = (C 25 (C 2 pr 0).toNat i).toNat
    rw [hf 2 pr 0 (by omega), hf 25 _ i (by omega)]
  exact ⟨h.cg es (fun k _ => hf 6 _ k (by omega)) (hf 2 pr 2 (by omega)) (hf 2 pr 4 (by omega)) (hf 2 pr 5 (by omega)) (fun j => hf 36 _ j (by omega)) (fun a j _ => hf 27 a j (by omega)), es⟩
theorem wTb.fr (h : wTb T b sE cnt pa C) (hf : ∀ f a j, (f = 2 ∧ j < 13) ∨ f = 6 ∨ f = 25 ∨ f = 27 ∨ f = 36 → C' f a j = C f a j) : wTb T b sE cnt pa C' := fun p hp => by
  obtain ⟨⟨h1, h2⟩, h3⟩ := h p hp
  refine ⟨⟨by rw [hf 2 _ 1 (by omega)]; exact h1, by rw [hf 2 _ 8 (by omega)]; exact h2⟩, fun i hi => ?_⟩
  obtain ⟨a1, a2, a3, a4⟩ := h3 i hi
  obtain ⟨b1, b2⟩ := a1.fr13 hf
  exact ⟨b1, by rw [b2, hf 6 _ 7 (by omega)]; exact a2, by rw [b2, hf 6 _ 12 (by omega)]; exact a3, by rw [b2, hf 6 _ 13 (by omega)]; exact a4⟩
theorem wSd.fr (hf : ∀ f a j, (f = 2 ∧ j < 13) ∨ f = 4 → C' f a j = C f a j) (pr : Nat) : wSd C' pr = wSd C pr ∧ wWw C' pr = wWw C pr := by
  unfold wSd wWw
  rw [hf 2 pr 12 (by omega), hf 4 _ 0 (by omega), hf 4 _ 1 (by omega)]
  exact ⟨rfl, rfl⟩
theorem wRu.fr (h : wRu cnt pa C) (hf : ∀ f a j, (f = 2 ∧ j < 13) ∨ f = 4 → C' f a j = C f a j) : wRu cnt pa C' := fun p p' hp hp' hn => by
  rw [(wSd.fr hf _).1, (wSd.fr hf _).1, (wSd.fr hf _).2, (wSd.fr hf _).2]
  exact h p p' hp hp' hn
theorem wCa.fr (h : wCa T cnt pa C) (hf : ∀ f a j, (f = 2 ∧ j < 13) ∨ f = 4 → C' f a j = C f a j) (h28 : ∀ a j, C' 28 a j = C 28 a j) (h29 : ∀ a j, C' 29 a j = C 29 a j) : wCa T cnt pa C' := fun p hp d hd => by
  rw [(wSd.fr hf _).1, (wSd.fr hf _).2, h28]
  rcases h p hp d hd with q | ⟨q1, R, q2, q3⟩ | q
  · exact Or.inl q
  · exact Or.inr (Or.inl ⟨q1, R, q2, fun v hv => by rw [h29]; exact q3 v hv⟩)
  · exact Or.inr (Or.inr q)
/-- one step's or block's work on a crowd -/
def wPr (o m sp sl hm : Nat) (T : xT) (b sE : Int → Int) (cnt : Nat) (pa : Nat → Nat) (cr L k : Nat) (G : tG) (C : mA) (B : Int) (l : List xE) : Prop := WE o m sp sl hm T b sE cnt pa G C ∧ G cr = some 0 ∧ ¬ wFree C sp L cr ∧ C 7 o 2 = (L : Int) ∧ nul C sp ≤ k ∧ CWs C cr l ∧ 0 ≤ B ∧ gdL B l
def wPo (o m sp sl hm : Nat) (T : xT) (b sE : Int → Int) (cnt : Nat) (pa : Nat → Nat) (cr L k : Nat) (G : tG) (C : mA) (B' kept tt : Int) (s : Option (List xE)) (r : Int) (k' : Nat) (G' : tG) (C' : mA) : Prop := WE o m sp sl hm T b sE cnt pa G' C' ∧ WFr o m sp (fun a => a = cr ∨ wFree C sp L a) L k G C k' G' C' ∧ C' 7 o 2 = (L : Int) ∧ wRs C' cr B' kept tt s r
/-- an operation over mixer and crowd -/
theorem WE.op {sk : Nat} {Y : List xE} {r : Int} (h : WE o m sp sl hm T b sE cnt pa G C) (hcr : G cr = some 0) (hr : oRes m cr (C 1 m 0).toNat (C 1 m 1).toNat sl hm (C 0 cr 0).toNat (C 0 cr 1).toNat sk C Y r C') : WE o m sp sl hm T b sE cnt pa G C' ∧ WFr o m sp (fun a => a = cr) L k G C k G C' ∧ C' 7 o 2 = C 7 o 2 := by
  obtain ⟨⟨⟨a1, a2, a3, a4⟩, hb, hc, hd⟩, ⟨h0, h1⟩, hT, hR, hA⟩ := h
  obtain ⟨hop, g3, hres⟩ := hr
  have f35 : ∀ i, C' 35 sp i = C 35 sp i := fun i => hop 35 sp i (by omega)
  have hal : (C' 1 m 0).toNat = (C 1 m 0).toNat ∧ (C' 1 m 1).toNat = (C 1 m 1).toNat ∧ (C' 0 cr 0).toNat = (C 0 cr 0).toNat ∧ (C' 0 cr 1).toNat = (C 0 cr 1).toNat ∧ mx0 C' m (C 1 m 0).toNat (C 1 m 1).toNat sl hm ∨ (C' 1 m 0).toNat = (C 0 cr 0).toNat ∧ (C' 1 m 1).toNat = (C 0 cr 1).toNat ∧ (C' 0 cr 0).toNat = (C 1 m 0).toNat ∧ (C' 0 cr 1).toNat = (C 1 m 1).toNat ∧ mx0 C' m (C 0 cr 0).toNat (C 0 cr 1).toNat sl hm := by
    rcases hres with ⟨-, r2, r3⟩ | ⟨-, -, r2, r3, r4⟩
    · exact Or.inr ⟨r3.1, r3.2.1, r2.1, r2.2.1, r3⟩
    · exact Or.inl ⟨r4.1, r4.2.1, r2, r3, r4⟩
  obtain ⟨⟨c1, c2⟩, c3, c4, c5, c6⟩ := hb cr hcr
  have oth : ∀ a, a ≠ cr → ∀ j, C' 0 a j = C 0 a j := fun a q j => hop 0 a j (by omega)
  have fr31 : ∀ a, G a = some 0 → a ≠ cr → (∀ j, C' 31 (C 0 a 0).toNat j = C 31 (C 0 a 0).toNat j) ∧ ∀ j, C' 32 (C 0 a 1).toNat j = C 32 (C 0 a 1).toNat j := fun a ha q => by
    obtain ⟨-, d3, d4, d5, -⟩ := hb a ha
    exact ⟨fun j => hop 31 _ j (by omega), fun j => hop 32 _ j (by omega)⟩
  refine ⟨⟨⟨?_, fun a ha => ?_, fun a a' ha ha' hn => ?_, fun i hi q => ?_⟩, ⟨by rw [hop 7 o 0 (by omega)]; exact h0, by rw [hop 7 o 1 (by omega)]; exact h1⟩, hT.fr (fun f a j q => hop f a j (by omega)), hR.fr (fun f a j q => hop f a j (by omega)), hA.fr (fun f a j q => hop f a j (by omega)) (fun a j => hop 28 a j (by omega)) (fun a j => hop 29 a j (by omega))⟩, ⟨fun _ _ q => q, fun f a j q => hop f a j (by omega), fun a ha hn => ⟨oth a hn, fr31 a ha hn⟩, fun i _ _ => f35 i, fun i _ q1 q2 => by rw [f35] at q2; omega, ?_, fun a j q => by rw [hop 28 a j (by omega)]; exact q⟩, hop 7 o 2 (by omega)⟩
  · rcases hal with ⟨q1, q2, q3, q4, q5⟩ | ⟨q1, q2, q3, q4, q5⟩
    · rw [q1, q2]; exact ⟨q5, a2, a3, a4⟩
    · rw [q1, q2]; exact ⟨q5, c1, c2, a4⟩
  · by_cases z : a = cr
    · subst z
      rcases hal with ⟨q1, q2, q3, q4, q5⟩ | ⟨q1, q2, q3, q4, q5⟩
      · rw [q1, q2, q3, q4]; exact ⟨⟨c1, c2⟩, c3, c4, c5, g3⟩
      · rw [q1, q2, q3, q4]; exact ⟨⟨a2, a3⟩, fun q => c3 q.symm, a1.2.2.2.2.1, fun q => c5 q.symm, g3⟩
    · obtain ⟨⟨d1, d2⟩, d3, d4, d5, d6⟩ := hb a ha
      obtain ⟨e1, e2⟩ := hc a cr ha hcr z
      have d6 : gCr C' a := ⟨by rw [oth a z]; exact d6.1, by rw [oth a z]; exact d6.2⟩
      rw [oth a z 0, oth a z 1]
      rcases hal with ⟨q1, q2, q3, q4, q5⟩ | ⟨q1, q2, q3, q4, q5⟩
      · rw [q1, q2]; exact ⟨⟨d1, d2⟩, d3, d4, d5, d6⟩
      · rw [q1, q2]; exact ⟨⟨d1, d2⟩, e1, d4, e2, d6⟩
  · have one : ∀ a, G a = some 0 → a ≠ cr → (C' 0 cr 0).toNat ≠ (C' 0 a 0).toNat ∧ (C' 0 cr 1).toNat ≠ (C' 0 a 1).toNat := fun a ha z => by
      obtain ⟨-, d3, d4, d5, -⟩ := hb a ha
      obtain ⟨e1, e2⟩ := hc cr a hcr ha (fun q => z q.symm)
      rw [oth a z, oth a z]
      rcases hal with ⟨q1, q2, q3, q4, q5⟩ | ⟨q1, q2, q3, q4, q5⟩
      · rw [q3, q4]; exact ⟨e1, e2⟩
      · rw [q3, q4]; exact ⟨fun q => d3 q.symm, fun q => d5 q.symm⟩
    by_cases z : a = cr
    · subst z
      exact one a' ha' (fun q => hn q.symm)
    · by_cases z' : a' = cr
      · subst z'
        obtain ⟨x, y⟩ := one a ha z
        exact ⟨fun q => x q.symm, fun q => y q.symm⟩
      · rw [oth a z, oth a z, oth a' z', oth a' z']
        exact hc a a' ha ha' hn
  · rw [f35] at q ⊢
    obtain ⟨d1, d2⟩ := hd i hi q
    exact ⟨d1, fun j hj hne q2 => by rw [f35] at q2 ⊢; exact d2 j hj hne q2⟩
  · rw [show nul C' sp = nul C sp from nulN_cg 40 (fun i _ => f35 i)]
/-- what it leaves, by the spec -/
theorem wRs_of {m sk st wt sc wc : Nat} {Y : List xE} {r B' kept Mk tt : Int} (htt : tot Y ≤ tt) (hY : ∀ q ∈ Y, (0 ≤ q.1 ∧ q.1 ≤ 999999) ∧ 0 < q.2 ∧ dv B' ∣ q.2) (ht : tot Y ≤ 1125899906842624) (hr : oRes m cr st wt sl hm sc wc sk C (rmp (rho Mk) Y) r C') (hk : kept = -1 → Mk = 16777215) : wRs C' cr B' kept tt (cap9 Y) r := by
  have hx : ∀ q ∈ rmp (rho Mk) Y, (0 ≤ q.1 ∧ q.1 ≤ 999999) ∧ 0 < q.2 ∧ dv B' ∣ q.2 := fun q hq => by
    obtain ⟨y, hy, rfl⟩ := List.mem_map.mp hq
    exact ⟨rho_r Mk y.1, (hY y hy).2⟩
  have en : nz (rmp (rho Mk) Y) = rmp (rho Mk) Y := List.filter_eq_self.mpr (fun q hq => by have := (hx q hq).2.1; simp; omega)
  have ek : kept = -1 → rmp (rho Mk) Y = Y := fun q => by rw [hk q]; exact rmp_id (fun y hy => (hY y hy).1)
  obtain ⟨-, -, ⟨r1, r2, -⟩ | ⟨r1, r2, -⟩⟩ := hr
  · have ec : cap9 (rmp (rho Mk) Y) = some (col [] (rmp (rho Mk) Y)) := by
      unfold cap9
      rw [en, if_pos r2.len]
    obtain ⟨g1, g2⟩ := gd_cap (fun q hq => ⟨(hx q hq).1, Int.le_of_lt (hx q hq).2.1, (hx q hq).2.2⟩) (by rw [tot_rmp]; exact ht) ec
    refine Or.inl ⟨r1, _, CWs.of r2, g1, by rw [g2, tot_rmp]; exact htt, fun q => ?_⟩
    rw [← ec, ek q]
  · refine Or.inr ⟨r1, fun q => ?_⟩
    rw [← ek q]
    unfold cap9
    rw [en, if_neg (by omega)]
end WES
