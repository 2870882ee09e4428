/-! sheets may be written beside: frames (own work) -/
/-- what a call may change, with sheets -/
def oeG (x : Nat) (C C' : mA) : Prop := ∀ f a j, ¬ (f = 5 ∨ f = 24 ∨ f = 0 ∨ (f = 1 ∧ a = wMx C x ∧ j < 3) ∨ f = 23 ∨ f = 28 ∨ f = 29 ∨ f = 31 ∨ f = 32 ∨ f = 33 ∨ (f = 35 ∧ a = wSp C x) ∨ f = 37 ∨ (f = 7 ∧ a = wO C x ∧ j = 2) ∨ (f = 2 ∧ 13 ≤ j)) → C' f a j = C f a j
section YQA
variable {D : va_G} {Gt G : tG} {C A : mA} {w : jW} {x sl hm : Nat} {T : xT}
theorem R9.og {C' A' : mA} (hw : hW D Gt C w) (gx : Gt x = some 8) (h : R9 x C A) (hf : oeG x C C') (hA : odF A A') : R9 x C' A' := by
  have h1 : R9 x C' A := R9.keepC hw gx h (fun τ a k _ q => hf τ a k (by
    rintro (rfl | rfl | rfl | ⟨rfl, -⟩ | rfl | rfl | rfl | rfl | rfl | rfl | ⟨rfl, -⟩ | rfl | ⟨rfl, -⟩ | ⟨rfl, q2⟩)
    iterate 13 exact absurd (show false = true from q) (by decide)
    have := List.elem_iff.mp (show List.elem k [0, 1, 2, 4, 5, 8, 9, 10, 11, 12] = true from q)
    simp only [List.mem_cons, List.not_mem_nil, or_false] at this
    omega))
  exact h1.cA ⟨hA 0 0 0 (by omega), hA 0 0 22 (by omega), hA 0 0 37 (by omega)⟩ (fun j _ => hA 9 0 j (by omega)) (fun j _ => ⟨hA 8 0 j (by omega), hA 10 0 j (by omega)⟩) (fun p _ => ⟨hA 5 0 p (by omega), hA 6 0 p (by omega), hA 7 0 p (by omega)⟩) (fun p _ f j q1 q2 _ _ _ => hA f p j (by omega))
theorem og_pa {C' : mA} (hf : oeG x C C') : wO C' x = wO C x ∧ wMx C' x = wMx C x ∧ wSp C' x = wSp C x ∧ aOa C' x = aOa C x ∧ aPr C' x = aPr C x ∧ ∀ p, C' 21 (aOa C x) p = C 21 (aOa C x) p := by
  have e8 : ∀ k, C' 8 x k = C 8 x k := fun k => hf 8 x k (by omega)
  have e1 : wO C' x = wO C x := by unfold wO; rw [e8]
  have e4 : aOa C' x = aOa C x := congrArg Int.toNat (e8 2)
  have e21 : ∀ p, C' 21 (aOa C x) p = C 21 (aOa C x) p := fun p => hf 21 _ p (by omega)
  refine ⟨e1, ?_, ?_, e4, ?_, e21⟩
  · unfold wMx; rw [e1, hf 7 _ 0 (by omega)]
  · unfold wSp; rw [e1, hf 7 _ 1 (by omega)]
  · funext p
    show (C' 21 (aOa C' x) p).toNat = (C 21 (aOa C x) p).toNat
    rw [e4, e21]
theorem WX.pgG {C' A' : mA} (h9 : R9 x C A) (hx : ∀ p : Nat, (p : Int) < A 0 0 0 → pg9 x p C A (T p).1 (T p).2) (hf : oeG x C C') (hA : odF A A') : ∀ p : Nat, (p : Int) < A' 0 0 0 → pg9 x p C' A' (T p).1 (T p).2 := fun p hp => by
  obtain ⟨-, ⟨b1, b2, b3⟩, -⟩ := id h9.1.1
  rw [hA 0 0 0 (by omega)] at hp
  obtain ⟨-, -, -, -, e5, -⟩ := og_pa hf
  exact (hx p hp).cg (by omega) (fun u _ => by rw [e5]) (fun u _ k hk => hf 2 _ k (by have := k2s_13 hk; omega)) (fun j => hf 25 _ j (by omega)) (fun i _ k _ => hf 6 _ k (by omega)) (fun j => hf 36 _ j (by omega)) (fun a j _ => hf 27 a j (by omega)) (hA 5 0 p (by omega)) (fun u _ => ⟨hA 6 0 u (by omega), hA 7 0 u (by omega)⟩) (fun f j q1 q2 _ _ _ => hA f p j (by omega))
end YQA
section YQB
variable {D : va_G} {Gt G G' : tG} {C C' A A' : mA} {w : jW} {x sl hm k k' : Nat} {T : xT}
theorem oeG.refl : oeG x C C := fun _ _ _ _ => rfl
theorem oeF.g (h : oeF x C C') : oeG x C C' := fun f a j q => h f a j (by omega)
theorem oeG.trans {C'' : mA} (h : oeG x C C') (h' : oeG x C' C'') : oeG x C C'' := fun f a j q => by
  obtain ⟨e1, e2, e3, -⟩ := og_pa h
  rw [h' f a j (by rw [e1, e2, e3]; exact q), h f a j q]
theorem WX.rowG (hw : hW D Gt C w) (gx : Gt x = some 8) (h0 : R9 x C A) (he : oeG x C C') (h : R9 x C' A') (hx : WX x G C' A' T sl hm) (hA : odF A A') {C'' : mA} (hf : ∀ f a j, ¬ (f = 5 ∨ f = 23 ∨ f = 24) → C'' f a j = C' f a j) : R9 x C'' A' ∧ WX x G C'' A' T sl hm ∧ oeG x C C'' ∧ rmK x C'' = rmK x C' := by
  have h1 : oeG x C' C'' := fun f a j q => hf f a j (by omega)
  have h2 : oeG x C C'' := he.trans h1
  obtain ⟨q1, q2, q3, q4, q5, q6⟩ := og_pa h1
  have hfs : ∀ f a j, (f = 2 ∧ j < 13) ∨ f = 4 → C'' f a j = C' f a j := fun f a j z => hf f a j (by omega)
  obtain ⟨hp, ⟨hW, h7, h11⟩, hR, hCa, ⟨hEa, hEn⟩, hM⟩ := hx
  have hwmd : ∀ q, wMd x C'' q ↔ wMd x C' q := fun q => by unfold wMd; rw [q4, q6]
  have cw : ∀ {a : Nat} {l : List xE}, CWs C' a l → CWs C'' a l := fun hc => hc.cg (fun j => hf 0 _ j (by omega)) (fun j => hf 31 _ j (by omega)) (fun j => hf 32 _ j (by omega))
  have fre : ∀ L a, wFree C'' (wSp C' x) L a → wFree C' (wSp C' x) L a := fun L a ⟨i, z1, z2, z3, z4⟩ => ⟨i, z1, z2, by rw [← hf 35 _ i (by omega)]; exact z3, by rw [← hf 35 _ i (by omega)]; exact z4⟩
  refine ⟨R9.og hw gx h0 h2 hA, ⟨WX.pgG h hp h1 odF.refl, ⟨by rw [q2, q3]; exact hW.cg (fun a ha => ⟨hf 0 a 0 (by omega), hf 0 a 1 (by omega), by rw [hf 0 a 2 (by omega)]; exact (hW.2.1 a ha).2.2.2.2.1, by rw [hf 0 a 3 (by omega)]; exact (hW.2.1 a ha).2.2.2.2.2⟩) (fun j _ => hf 1 _ j (by omega)) (fun j => hf 33 _ j (by omega)) (fun i _ => hf 35 _ i (by omega)), by rw [q1, hf 7 _ 2 (by omega)]; exact h7, by rw [hf 8 x 11 (by clear h11; omega), hf 8 x 12 (by clear h11; omega)]; exact h11⟩, fun u u' hu hu' n m1 m2 => ?_, by rw [q5]; exact hCa.fr hfs (fun a j => hf 28 a j (by omega)) (fun a j => hf 29 a j (by omega)), ⟨?_, ?_⟩, hM⟩, h2, ?_⟩
  · rw [q5, (wSd.fr hfs _).1, (wSd.fr hfs _).1, (wSd.fr hfs _).2, (wSd.fr hfs _).2]
    exact hR u u' hu hu' n ((hwmd u).mp m1) ((hwmd u').mp m2)
  · rw [q5, q3]
    intro u hu m1 h1'
    rw [hf 2 _ 13 (by omega)] at h1' ⊢
    obtain ⟨⟨v1, v3⟩, v2⟩ := hEa u hu ((hwmd u).mp m1) h1'
    refine ⟨⟨v1, fun z => v3 (fre _ _ z)⟩, fun u' hu' m2 hn h2' => ?_⟩
    rw [hf 2 _ 13 (by omega)] at h2' ⊢
    exact v2 u' hu' ((hwmd u').mp m2) hn h2'
  · rw [q5]
    intro u hu
    rw [hf 2 _ 14 (by omega), hf 2 _ 13 (by omega), hf 2 _ 15 (by omega)]
    rcases hEn u hu with y | ⟨y1, y2, ⟨y3, l, y4, y5⟩ | y3⟩
    · exact Or.inl y
    · exact Or.inr ⟨y1, y2, Or.inl ⟨y3, l, y4, cw y5⟩⟩
    · exact Or.inr ⟨y1, y2, Or.inr y3⟩
  · unfold rmK
    rw [q3, q4, q5, show nul C'' (wSp C' x) = nul C' (wSp C' x) from nulN_cg 40 (fun i _ => hf 35 _ i (by omega)), nulN_cg (f := fun p => if 0 ≤ C' 21 (aOa C' x) p then C' 2 (aPr C' x p) 13 else 0) 6 (fun i _ => by
      show (if 0 ≤ C'' 21 (aOa C' x) i then C'' 2 (aPr C' x i) 13 else 0) = _
      rw [q6, hf 2 _ 13 (by omega)])]
end YQB
