/-! the class's walk: soft writes, what is needed; the spec's steps (own work) -/
theorem tl_16 {c : Nat → kS} {L : Int} {n a b : Nat} (h : tl c L n a b) (hn : n ≤ 16) : tl c L 16 a b := by
  have := tl_add h (16 - n)
  rwa [show n + (16 - n) = 16 by omega] at this
section SPS
variable {T : xT} {b : Int → Int} {cnt : Nat}
theorem sp0 {P i : Nat} {l : List xE} (k : sK ((T P).2 i) = 0) : sSt T 40 P i l = cap9 (l.flatMap (xDraw ((T P).2 i))) := by
  show sSt T (39 + 1) P i l = _
  unfold sSt
  rw [if_pos k]
theorem sp1 {P i : Nat} {l : List xE} (k : sK ((T P).2 i) = 1) : sSt T 40 P i l = cap9 (l.map (xLet ((T P).2 i))) := by
  show sSt T (39 + 1) P i l = _
  unfold sSt
  rw [if_neg (by omega), if_pos k]
theorem sp2 {P i : Nat} {l : List xE} (k : sK ((T P).2 i) = 2) : sSt T 40 P i l = cap9 (l.filter (fun q => xv ((T P).2 i) q.1 != 0)) := by
  show sSt T (39 + 1) P i l = _
  unfold sSt
  rw [if_neg (by omega), if_neg (by omega), if_pos k]
theorem sp3 (hT : TB T b cnt) {P i : Nat} (hP : P < cnt) (hi : i < (T P).1) {l : List xE} (k : sK ((T P).2 i) = 3) : sSt T 40 P i l = (sBk (sSt T 40 P) (T P).2 17 (i + 1) (i + sO ((T P).2 i)) (l.filter (fun q => xv ((T P).2 i) q.1 != 0))).bind (fun a => (sBk (sSt T 40 P) (T P).2 17 (i + sO ((T P).2 i)) (i + sI ((T P).2 i)) (l.filter (fun q => !(xv ((T P).2 i) q.1 != 0)))).bind (fun b => cap9 (a ++ b))) := by
  obtain ⟨ho, hX, -⟩ := hT.2 P hP
  obtain ⟨⟨hk, hv, hi1, h3, -⟩, h9⟩ := ho.2.2 i hi
  obtain ⟨o0, o1, o2, t1, t2⟩ := h3 k
  rw [← s39 hT hP t1 (by omega) (by omega), ← s39 hT hP t2 (by omega) (by omega)]
  show sSt T (39 + 1) P i l = _
  conv => lhs; unfold sSt
  rw [if_neg (by omega), if_neg (by omega), if_neg (by omega), if_pos k]
theorem sp4 (hT : TB T b cnt) {P i : Nat} (hP : P < cnt) (hi : i < (T P).1) {l : List xE} (k : sK ((T P).2 i) = 4) : sSt T 40 P i l = sLp (sBk (sSt T 40 P) (T P).2 17 (i + 1) (i + sI ((T P).2 i))) (sU ((T P).2 i)).toNat l := by
  obtain ⟨ho, hX, -⟩ := hT.2 P hP
  obtain ⟨⟨hk, hv, hi1, h3, h4, -⟩, h9⟩ := ho.2.2 i hi
  obtain ⟨o0, o1, t1⟩ := h4 k
  have e9 : sBk (sSt T 40 P) (T P).2 17 (i + 1) (i + sI ((T P).2 i)) = sBk (sSt T 39 P) (T P).2 17 (i + 1) (i + sI ((T P).2 i)) := funext (fun l => (s39 hT hP t1 (by omega) (by omega) 17 l).symm)
  rw [e9]
  show sSt T (39 + 1) P i l = _
  conv => lhs; unfold sSt
  rw [if_neg (by omega), if_neg (by omega), if_neg (by omega), if_neg (by omega), if_pos k]
theorem sp5 (hT : TB T b cnt) {P i Q : Nat} (hP : P < cnt) (hi : i < (T P).1) {l : List xE} (k : sK ((T P).2 i) = 5) (hQe : sU ((T P).2 i) = (Q : Int)) : sSt T 40 P i l = if l.all (fun q => (sRn T 40 Q (xv ((T P).2 i) q.1 % 10)).isSome) = true then cap9 (l.flatMap (xRun ((T P).2 i) (xW T Q))) else none := by
  have hc6 := hT.1
  obtain ⟨ho, hX, -⟩ := hT.2 P hP
  obtain ⟨⟨hk, hv, hi1, h3, h4, h5, -⟩, h9⟩ := ho.2.2 i hi
  obtain ⟨u1, u2⟩ := h5 k
  have e9 : ∀ d, sRn T 39 Q d = sRn T 40 Q d := fun d => sRn_f hT (by omega) (by omega) (by omega) d
  have e8 : sSt T (39 + 1) P i l = if l.all (fun q => (sRn T 39 Q (xv ((T P).2 i) q.1 % 10)).isSome) = true then cap9 (l.flatMap (xRun ((T P).2 i) (fun d v => xw ((sRn T 39 Q d).getD []) v))) else none := by
    conv => lhs; unfold sSt
    rw [if_neg (by omega), if_neg (by omega), if_neg (by omega), if_neg (by omega), if_neg (by omega), hQe]
    rfl
  show sSt T (39 + 1) P i l = _
  rw [e8]
  simp only [e9]
  rfl
end SPS
section WSF
variable {o m sp sl hm : Nat} {T : xT} {b sE : Int → Int} {cnt : Nat} {pa : Nat → Nat} {G : tG} {C C' : mA} {S : Nat → Prop} {L k : Nat}
/-- a write that no pointer notices -/
theorem WE.soft (h : WE o m sp sl hm T b sE cnt pa G C) (hS : ∀ a, S a → G a = some 0) (hf : ∀ f a j, ¬ ((f = 0 ∧ S a ∧ (j = 2 ∨ j = 3)) ∨ (f = 31 ∧ (a = hm ∨ a = (C 1 m 0).toNat ∨ ∃ x, S x ∧ a = (C 0 x 0).toNat)) ∨ (f = 32 ∧ (a = (C 1 m 1).toNat ∨ ∃ x, S x ∧ a = (C 0 x 1).toNat)) ∨ f = 33 ∨ (f = 1 ∧ a = m ∧ j = 2) ∨ f = 37 ∨ (f = 7 ∧ a = o ∧ j = 2)) → C' f a j = C f a j) (h3 : ∀ a, S a → gCr C' a) (hx : ∀ x, x < 1024 → g32 (C' 33 sl x)) : WE o m sp sl hm T b sE cnt pa G C' ∧ WFr o m sp S L k G C k G C' := by
  obtain ⟨⟨⟨a1, a2, a3, a4⟩, hb, hc, hd⟩, ⟨h0, h1⟩, hT, hR, hA⟩ := h
  have f0 : ∀ a j, ¬ (S a ∧ (j = 2 ∨ j = 3)) → C' 0 a j = C 0 a j := fun a j q => hf 0 a j (by
    rintro (⟨-, z1, z2⟩ | ⟨z, -⟩ | ⟨z, -⟩ | z | ⟨z, -⟩ | z | ⟨z, -⟩)
    · exact q ⟨z1, z2⟩
    all_goals omega)
  have fo : ∀ f a j, f ≠ 0 → f ≠ 31 → f ≠ 32 → f ≠ 33 → f ≠ 1 → f ≠ 37 → f ≠ 7 → C' f a j = C f a j := fun f a j q0 q1 q2 q3 q4 q5 q6 => hf f a j (by omega)
  have f1 : ∀ j, j ≠ 2 → C' 1 m j = C 1 m j := fun j q => hf 1 m j (by omega)
  have f35 : ∀ i, C' 35 sp i = C 35 sp i := fun i => fo 35 sp i (by omega) (by omega) (by omega) (by omega) (by omega) (by omega) (by omega)
  have a0 : ∀ a, C' 0 a 0 = C 0 a 0 ∧ C' 0 a 1 = C 0 a 1 := fun a => ⟨f0 a 0 (by omega), f0 a 1 (by omega)⟩
  have sh : ∀ x a, G x = some 0 → G a = some 0 → ¬ S a → S x → (C 0 a 0).toNat ≠ (C 0 x 0).toNat ∧ (C 0 a 1).toNat ≠ (C 0 x 1).toNat := fun x a hx ha hn hs => hc a x ha hx (fun q => hn (q ▸ hs))
  refine ⟨⟨⟨?_, fun a ha => ?_, fun a a' ha ha' hn => ?_, fun i hi q => ?_⟩, ⟨by rw [hf 7 o 0 (by omega)]; exact h0, by rw [hf 7 o 1 (by omega)]; exact h1⟩, hT.fr (fun f a j q => fo f a j (by omega) (by omega) (by omega) (by omega) (by omega) (by omega) (by omega)), hR.fr (fun f a j q => fo f a j (by omega) (by omega) (by omega) (by omega) (by omega) (by omega) (by omega)), hA.fr (fun f a j q => fo f a j (by omega) (by omega) (by omega) (by omega) (by omega) (by omega) (by omega)) (fun a j => fo 28 a j (by omega) (by omega) (by omega) (by omega) (by omega) (by omega) (by omega)) (fun a j => fo 29 a j (by omega) (by omega) (by omega) (by omega) (by omega) (by omega) (by omega))⟩, ⟨fun _ _ q => q, fun f a j q => ?_, fun a ha hn => ⟨fun j => f0 a j (fun q => hn q.1), fun j => ?_, fun j => ?_⟩, fun i _ _ => f35 i, fun i _ q1 q2 => by rw [f35] at q2; omega, ?_, fun a j q => by rw [fo 28 a j (by omega) (by omega) (by omega) (by omega) (by omega) (by omega) (by omega)]; exact q⟩⟩
  · rw [f1 0 (by omega), f1 1 (by omega)]
    obtain ⟨b1, b2, b3, b4, b5, b6⟩ := a1
    exact ⟨⟨by rw [f1 0 (by omega)], by rw [f1 1 (by omega)], by rw [f1 3 (by omega)]; exact b3, by rw [f1 4 (by omega)]; exact b4, b5, hx⟩, a2, a3, a4⟩
  · obtain ⟨d1, d2, d3, d4, d5⟩ := hb a ha
    rw [(a0 a).1, (a0 a).2, f1 0 (by omega), f1 1 (by omega)]
    refine ⟨d1, d2, d3, d4, ?_⟩
    by_cases z : S a
    · exact h3 a z
    · exact ⟨by rw [f0 a 2 (fun q => z q.1)]; exact d5.1, by rw [f0 a 3 (fun q => z q.1)]; exact d5.2⟩
  · rw [(a0 a).1, (a0 a).2, (a0 a').1, (a0 a').2]
    exact hc a a' ha ha' hn
  · rw [f35] at q ⊢
    obtain ⟨d1, d2⟩ := hd i hi q
    exact ⟨d1, fun j hj hne q2 => by rw [f35] at q2 ⊢; exact d2 j hj hne q2⟩
  · refine hf f a j ?_
    rintro (⟨z, -⟩ | ⟨z, -⟩ | ⟨z, -⟩ | z | ⟨z1, z2, z3⟩ | z | z)
    all_goals omega
  · refine hf 31 _ j ?_
    obtain ⟨-, d2, d3, -⟩ := hb a ha
    rintro (⟨z, -⟩ | ⟨-, z | z | ⟨x, z1, z2⟩⟩ | ⟨z, -⟩ | z | ⟨z, -⟩ | z | ⟨z, -⟩)
    · omega
    · exact d3 z
    · exact d2 z
    · exact (sh x a (hS x z1) ha hn z1).1 z2
    all_goals omega
  · refine hf 32 _ j ?_
    obtain ⟨-, -, -, d4, -⟩ := hb a ha
    rintro (⟨z, -⟩ | ⟨z, -⟩ | ⟨-, z | ⟨x, z1, z2⟩⟩ | z | ⟨z, -⟩ | z | ⟨z, -⟩)
    · omega
    · omega
    · exact d4 z
    · exact (sh x a (hS x z1) ha hn z1).2 z2
    all_goals omega
  · rw [show nul C' sp = nul C sp from nulN_cg 40 (fun i _ => f35 i)]
theorem w_nf (hT : TB T b cnt) (h : wTb T b sE cnt pa C) (hs : ∀ u : Nat, u < cnt → sE u = 0 ∨ sE u = 1) {p a e : Nat} {lv v : Int} (hp : p < cnt) (t : tl (T p).2 lv 16 a e) (he : e ≤ (T p).1) (hv : g32 v) : ∃ v', f_Prog_neededFrom C (pa p) a e v = some (v', C) ∧ g32 v' := by
  obtain ⟨ho, hX, -⟩ := hT.2 p hp
  obtain ⟨-, h3⟩ := h p hp
  have h16 := ho.1
  have ck := c_ndBl (C := C) (pr := pa p) (L := lv) (d := 0) (nao := f_Prog_naoN 6) (h := ndS (T p).2 sE 16) h16 (fun i hi => ⟨(h3 i hi).1.1.2.2.2.2, (ho.2.2 i hi).1.2.1⟩) (by omega) he t (fun i _ hi e V hV => c_naoD ho (fun i hi => (h3 i hi).1) hX (fun i hi => (h3 i hi).2.2.1) (fun u hu => hs u (by omega)) 6 i 0 V (by omega) (by have := (ho.2.2 i (by omega)).1.2.1; omega) (by have := (ho.2.2 i (by omega)).1.2.1; omega) hV) (fun i _ hi => ndS_r ho 16 i (by omega) (by omega)) hv
  have rl : g32 (ndB (T p).2 (ndS (T p).2 sE 16) 16 a e v) := ndB_r _ _ _ t (fun i _ hi => ndS_r ho 16 i (by omega) (by omega)) v hv
  refine ⟨_, ?_, rl⟩
  unfold f_Prog_neededFrom
  rw [ck, obind]
theorem w_nft (hT : TB T b cnt) (h : wTb T b sE cnt pa C) (hs : ∀ u : Nat, u < cnt → sE u = 0 ∨ sE u = 1) {p i : Nat} {v : Int} (hp : p < cnt) (hi : i < (T p).1) (k4 : sK ((T p).2 i) = 4) {t : Nat} (ht : t ≤ 9) (hv : g32 v) : ∃ v', f_Prog_neededFromTimes C (pa p) i t v = some (v', C) ∧ g32 v' := by
  obtain ⟨ho, hX, -⟩ := hT.2 p hp
  obtain ⟨-, h3⟩ := h p hp
  have h16 := ho.1
  obtain ⟨⟨hk, hV, hi1, g3, g4, -⟩, h9⟩ := ho.2.2 i hi
  obtain ⟨o0, o1, t1⟩ := g4 k4
  have bh := c_behind9 (C := C) (pr := pa p) (i := i) (s := (T p).2 i) (by omega) (h3 i hi).1.1.2.2.2.1 hi1 (by omega)
  have rr : ∀ V, g32 V → g32 (ndB (T p).2 (ndS (T p).2 sE 16) 16 (i + 1) (i + sI ((T p).2 i)) V) := fun V hV => ndB_r _ _ _ t1 (fun i _ hi => ndS_r ho 16 i (by omega) (by omega)) V hV
  have ck := c_ndT (C := C) (pr := pa p) (c := (T p).2) h16 (nao := f_Prog_naoN 6) (i := i) (T := t) (d := 0) ht hi bh (fun V hV => c_ndBl (C := C) (pr := pa p) (L := sV ((T p).2 i) + 1) (d := 0 + 1) (nao := f_Prog_naoN 6) (h := ndS (T p).2 sE 16) (a := i + 1) h16 (fun i hi => ⟨(h3 i hi).1.1.2.2.2.2, (ho.2.2 i hi).1.2.1⟩) (by omega) (by omega) t1 (fun j _ hj e V hV => c_naoD ho (fun i hi => (h3 i hi).1) hX (fun i hi => (h3 i hi).2.2.1) (fun u hu => hs u (by omega)) 6 j (0 + 1) V (by omega) (by omega) (by omega) hV) (fun i _ hi => ndS_r ho 16 i (by omega) (by omega)) hV) rr t 20 0 v (by omega) (by omega) hv
  have rl : g32 (ndL (ndB (T p).2 (ndS (T p).2 sE 16) 16 (i + 1) (i + sI ((T p).2 i))) t v) := ndL_r rr t v hv
  refine ⟨_, ?_, rl⟩
  unfold f_Prog_neededFromTimes
  have ck' : f_Prog_neededAheadOfTimes (f_Prog_naoN 6) C (pa p) i t v 0 = _ := ck
  rw [ck', obind]
end WSF
